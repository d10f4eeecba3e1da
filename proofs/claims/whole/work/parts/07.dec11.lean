/-! decoded instructions -/
theorem dX11_init_0 : decode cX11_init 0 = .ok (.aload_n 0, 1) := by decide +kernel
theorem dX11_init_1 : decode cX11_init 1 = .ok (.invokespecial 3, 3) := by decide +kernel
theorem dX11_init_4 : decode cX11_init 4 = .ok (.aload_n 0, 1) := by decide +kernel
theorem dX11_init_5 : decode cX11_init 5 = .ok (.sipush 900, 3) := by decide +kernel
theorem dX11_init_8 : decode cX11_init 8 = .ok (.newarray .int, 2) := by decide +kernel
theorem dX11_init_10 : decode cX11_init 10 = .ok (.putfield 9, 3) := by decide +kernel
theorem dX11_init_13 : decode cX11_init 13 = .ok (.aload_n 0, 1) := by decide +kernel
theorem dX11_init_14 : decode cX11_init 14 = .ok (.iconst (-1), 1) := by decide +kernel
theorem dX11_init_15 : decode cX11_init 15 = .ok (.putfield 13, 3) := by decide +kernel
theorem dX11_init_18 : decode cX11_init 18 = .ok (.aload_n 0, 1) := by decide +kernel
theorem dX11_init_19 : decode cX11_init 19 = .ok (.sipush 1613, 3) := by decide +kernel
theorem dX11_init_22 : decode cX11_init 22 = .ok (.newarray .int, 2) := by decide +kernel
theorem dX11_init_24 : decode cX11_init 24 = .ok (.putfield 17, 3) := by decide +kernel
theorem dX11_init_27 : decode cX11_init 27 = .ok (.aload_n 0, 1) := by decide +kernel
theorem dX11_init_28 : decode cX11_init 28 = .ok (.sipush 1613, 3) := by decide +kernel
theorem dX11_init_31 : decode cX11_init 31 = .ok (.newarray .int, 2) := by decide +kernel
theorem dX11_init_33 : decode cX11_init 33 = .ok (.putfield 20, 3) := by decide +kernel
theorem dX11_init_36 : decode cX11_init 36 = .ok (.aload_n 0, 1) := by decide +kernel
theorem dX11_init_37 : decode cX11_init 37 = .ok (.bipush 8, 2) := by decide +kernel
theorem dX11_init_39 : decode cX11_init 39 = .ok (.sipush 1613, 3) := by decide +kernel
theorem dX11_init_42 : decode cX11_init 42 = .ok (.multianewarray 23 2, 4) := by decide +kernel
theorem dX11_init_46 : decode cX11_init 46 = .ok (.putfield 25, 3) := by decide +kernel
theorem dX11_init_49 : decode cX11_init 49 = .ok (.aload_n 0, 1) := by decide +kernel
theorem dX11_init_50 : decode cX11_init 50 = .ok (.bipush 10, 2) := by decide +kernel
theorem dX11_init_52 : decode cX11_init 52 = .ok (.bipush 10, 2) := by decide +kernel
theorem dX11_init_54 : decode cX11_init 54 = .ok (.multianewarray 23 2, 4) := by decide +kernel
theorem dX11_init_58 : decode cX11_init 58 = .ok (.putfield 28, 3) := by decide +kernel
theorem dX11_init_61 : decode cX11_init 61 = .ok (.aload_n 0, 1) := by decide +kernel
theorem dX11_init_62 : decode cX11_init 62 = .ok (.sipush 1400, 3) := by decide +kernel
theorem dX11_init_65 : decode cX11_init 65 = .ok (.newarray .long, 2) := by decide +kernel
theorem dX11_init_67 : decode cX11_init 67 = .ok (.putfield 31, 3) := by decide +kernel
theorem dX11_init_70 : decode cX11_init 70 = .ok (.aload_n 0, 1) := by decide +kernel
theorem dX11_init_71 : decode cX11_init 71 = .ok (.iconst 3, 1) := by decide +kernel
theorem dX11_init_72 : decode cX11_init 72 = .ok (.newarray .int, 2) := by decide +kernel
theorem dX11_init_74 : decode cX11_init 74 = .ok (.putfield 35, 3) := by decide +kernel
theorem dX11_init_77 : decode cX11_init 77 = .ok (.aload_n 0, 1) := by decide +kernel
theorem dX11_init_78 : decode cX11_init 78 = .ok (.iconst 3, 1) := by decide +kernel
theorem dX11_init_79 : decode cX11_init 79 = .ok (.newarray .int, 2) := by decide +kernel
theorem dX11_init_81 : decode cX11_init 81 = .ok (.putfield 38, 3) := by decide +kernel
theorem dX11_init_84 : decode cX11_init 84 = .ok (.aload_n 0, 1) := by decide +kernel
theorem dX11_init_85 : decode cX11_init 85 = .ok (.iconst 3, 1) := by decide +kernel
theorem dX11_init_86 : decode cX11_init 86 = .ok (.newarray .int, 2) := by decide +kernel
theorem dX11_init_88 : decode cX11_init 88 = .ok (.putfield 41, 3) := by decide +kernel
theorem dX11_init_91 : decode cX11_init 91 = .ok (.aload_n 0, 1) := by decide +kernel
theorem dX11_init_92 : decode cX11_init 92 = .ok (.bipush 36, 2) := by decide +kernel
theorem dX11_init_94 : decode cX11_init 94 = .ok (.newarray .int, 2) := by decide +kernel
theorem dX11_init_96 : decode cX11_init 96 = .ok (.putfield 44, 3) := by decide +kernel
theorem dX11_init_99 : decode cX11_init 99 = .ok (.aload_n 0, 1) := by decide +kernel
theorem dX11_init_100 : decode cX11_init 100 = .ok (.bipush 36, 2) := by decide +kernel
theorem dX11_init_102 : decode cX11_init 102 = .ok (.newarray .int, 2) := by decide +kernel
theorem dX11_init_104 : decode cX11_init 104 = .ok (.putfield 47, 3) := by decide +kernel
theorem dX11_init_107 : decode cX11_init 107 = .ok (.aload_n 0, 1) := by decide +kernel
theorem dX11_init_108 : decode cX11_init 108 = .ok (.bipush 16, 2) := by decide +kernel
theorem dX11_init_110 : decode cX11_init 110 = .ok (.newarray .int, 2) := by decide +kernel
theorem dX11_init_112 : decode cX11_init 112 = .ok (.putfield 50, 3) := by decide +kernel
theorem dX11_init_115 : decode cX11_init 115 = .ok (.aload_n 0, 1) := by decide +kernel
theorem dX11_init_116 : decode cX11_init 116 = .ok (.bipush 16, 2) := by decide +kernel
theorem dX11_init_118 : decode cX11_init 118 = .ok (.newarray .int, 2) := by decide +kernel
theorem dX11_init_120 : decode cX11_init 120 = .ok (.putfield 53, 3) := by decide +kernel
theorem dX11_init_123 : decode cX11_init 123 = .ok (.aload_n 0, 1) := by decide +kernel
theorem dX11_init_124 : decode cX11_init 124 = .ok (.sipush 256, 3) := by decide +kernel
theorem dX11_init_127 : decode cX11_init 127 = .ok (.bipush 8, 2) := by decide +kernel
theorem dX11_init_129 : decode cX11_init 129 = .ok (.multianewarray 23 2, 4) := by decide +kernel
theorem dX11_init_133 : decode cX11_init 133 = .ok (.putfield 56, 3) := by decide +kernel
theorem dX11_init_136 : decode cX11_init 136 = .ok (.aload_n 0, 1) := by decide +kernel
theorem dX11_init_137 : decode cX11_init 137 = .ok (.bipush 8, 2) := by decide +kernel
theorem dX11_init_139 : decode cX11_init 139 = .ok (.newarray .int, 2) := by decide +kernel
theorem dX11_init_141 : decode cX11_init 141 = .ok (.putfield 59, 3) := by decide +kernel
theorem dX11_init_144 : decode cX11_init 144 = .ok (.aload_n 0, 1) := by decide +kernel
theorem dX11_init_145 : decode cX11_init 145 = .ok (.bipush 8, 2) := by decide +kernel
theorem dX11_init_147 : decode cX11_init 147 = .ok (.newarray .int, 2) := by decide +kernel
theorem dX11_init_149 : decode cX11_init 149 = .ok (.putfield 62, 3) := by decide +kernel
theorem dX11_init_152 : decode cX11_init 152 = .ok (.aload_n 0, 1) := by decide +kernel
theorem dX11_init_153 : decode cX11_init 153 = .ok (.iconst 3, 1) := by decide +kernel
theorem dX11_init_154 : decode cX11_init 154 = .ok (.sipush 256, 3) := by decide +kernel
theorem dX11_init_157 : decode cX11_init 157 = .ok (.multianewarray 23 2, 4) := by decide +kernel
theorem dX11_init_161 : decode cX11_init 161 = .ok (.putfield 65, 3) := by decide +kernel
theorem dX11_init_164 : decode cX11_init 164 = .ok (.aload_n 0, 1) := by decide +kernel
theorem dX11_init_165 : decode cX11_init 165 = .ok (.iconst 3, 1) := by decide +kernel
theorem dX11_init_166 : decode cX11_init 166 = .ok (.newarray .int, 2) := by decide +kernel
theorem dX11_init_168 : decode cX11_init 168 = .ok (.putfield 68, 3) := by decide +kernel
theorem dX11_init_171 : decode cX11_init 171 = .ok (.return_, 1) := by decide +kernel
theorem dX11_thrown_0 : decode cX11_thrown 0 = .ok (.aload_n 0, 1) := by decide +kernel
theorem dX11_thrown_1 : decode cX11_thrown 1 = .ok (.getfield 71, 3) := by decide +kernel
theorem dX11_thrown_4 : decode cX11_thrown 4 = .ok (.ireturn, 1) := by decide +kernel
theorem dX11_fails_0 : decode cX11_fails 0 = .ok (.iload_n 1, 1) := by decide +kernel
theorem dX11_fails_1 : decode cX11_fails 1 = .ok (.ifCond .eq 15, 3) := by decide +kernel
theorem dX11_fails_4 : decode cX11_fails 4 = .ok (.aload_n 0, 1) := by decide +kernel
theorem dX11_fails_5 : decode cX11_fails 5 = .ok (.getfield 71, 3) := by decide +kernel
theorem dX11_fails_8 : decode cX11_fails 8 = .ok (.ifCond .ne 8, 3) := by decide +kernel
theorem dX11_fails_11 : decode cX11_fails 11 = .ok (.aload_n 0, 1) := by decide +kernel
theorem dX11_fails_12 : decode cX11_fails 12 = .ok (.iload_n 2, 1) := by decide +kernel
theorem dX11_fails_13 : decode cX11_fails 13 = .ok (.putfield 71, 3) := by decide +kernel
theorem dX11_fails_16 : decode cX11_fails 16 = .ok (.aload_n 0, 1) := by decide +kernel
theorem dX11_fails_17 : decode cX11_fails 17 = .ok (.getfield 71, 3) := by decide +kernel
theorem dX11_fails_20 : decode cX11_fails 20 = .ok (.ifCond .eq 7, 3) := by decide +kernel
theorem dX11_fails_23 : decode cX11_fails 23 = .ok (.iconst 1, 1) := by decide +kernel
theorem dX11_fails_24 : decode cX11_fails 24 = .ok (.goto 4, 3) := by decide +kernel
theorem dX11_fails_27 : decode cX11_fails 27 = .ok (.iconst 0, 1) := by decide +kernel
theorem dX11_fails_28 : decode cX11_fails 28 = .ok (.ireturn, 1) := by decide +kernel
theorem dX11_in_0 : decode cX11_in 0 = .ok (.iload_n 0, 1) := by decide +kernel
theorem dX11_in_1 : decode cX11_in 1 = .ok (.iload_n 1, 1) := by decide +kernel
theorem dX11_in_2 : decode cX11_in 2 = .ok (.if_icmp .lt 12, 3) := by decide +kernel
theorem dX11_in_5 : decode cX11_in 5 = .ok (.iload_n 0, 1) := by decide +kernel
theorem dX11_in_6 : decode cX11_in 6 = .ok (.iload_n 2, 1) := by decide +kernel
theorem dX11_in_7 : decode cX11_in 7 = .ok (.if_icmp .gt 7, 3) := by decide +kernel
theorem dX11_in_10 : decode cX11_in 10 = .ok (.iconst 1, 1) := by decide +kernel
theorem dX11_in_11 : decode cX11_in 11 = .ok (.goto 4, 3) := by decide +kernel
theorem dX11_in_14 : decode cX11_in 14 = .ok (.iconst 0, 1) := by decide +kernel
theorem dX11_in_15 : decode cX11_in 15 = .ok (.ireturn, 1) := by decide +kernel
theorem dX11_min_0 : decode cX11_min 0 = .ok (.iload_n 0, 1) := by decide +kernel
theorem dX11_min_1 : decode cX11_min 1 = .ok (.iload_n 1, 1) := by decide +kernel
theorem dX11_min_2 : decode cX11_min 2 = .ok (.if_icmp .ge 7, 3) := by decide +kernel
theorem dX11_min_5 : decode cX11_min 5 = .ok (.iload_n 0, 1) := by decide +kernel
theorem dX11_min_6 : decode cX11_min 6 = .ok (.goto 4, 3) := by decide +kernel
theorem dX11_min_9 : decode cX11_min 9 = .ok (.iload_n 1, 1) := by decide +kernel
theorem dX11_min_10 : decode cX11_min 10 = .ok (.ireturn, 1) := by decide +kernel
theorem dX11_copy_0 : decode cX11_copy 0 = .ok (.iconst 0, 1) := by decide +kernel
theorem dX11_copy_1 : decode cX11_copy 1 = .ok (.istore_n 2, 1) := by decide +kernel
theorem dX11_copy_2 : decode cX11_copy 2 = .ok (.iload_n 2, 1) := by decide +kernel
theorem dX11_copy_3 : decode cX11_copy 3 = .ok (.sipush 1613, 3) := by decide +kernel
theorem dX11_copy_6 : decode cX11_copy 6 = .ok (.if_icmp .ge 15, 3) := by decide +kernel
theorem dX11_copy_9 : decode cX11_copy 9 = .ok (.aload_n 1, 1) := by decide +kernel
theorem dX11_copy_10 : decode cX11_copy 10 = .ok (.iload_n 2, 1) := by decide +kernel
theorem dX11_copy_11 : decode cX11_copy 11 = .ok (.aload_n 0, 1) := by decide +kernel
theorem dX11_copy_12 : decode cX11_copy 12 = .ok (.iload_n 2, 1) := by decide +kernel
theorem dX11_copy_13 : decode cX11_copy 13 = .ok (.iaload, 1) := by decide +kernel
theorem dX11_copy_14 : decode cX11_copy 14 = .ok (.iastore, 1) := by decide +kernel
theorem dX11_copy_15 : decode cX11_copy 15 = .ok (.iinc 2 1, 3) := by decide +kernel
theorem dX11_copy_18 : decode cX11_copy 18 = .ok (.goto (-16), 3) := by decide +kernel
theorem dX11_copy_21 : decode cX11_copy 21 = .ok (.return_, 1) := by decide +kernel
theorem dX11_street_0 : decode cX11_street 0 = .ok (.bipush 8, 2) := by decide +kernel
theorem dX11_street_2 : decode cX11_street 2 = .ok (.iconst 4, 1) := by decide +kernel
theorem dX11_street_3 : decode cX11_street 3 = .ok (.iload_n 0, 1) := by decide +kernel
theorem dX11_street_4 : decode cX11_street 4 = .ok (.imul, 1) := by decide +kernel
theorem dX11_street_5 : decode cX11_street 5 = .ok (.iadd, 1) := by decide +kernel
theorem dX11_street_6 : decode cX11_street 6 = .ok (.ireturn, 1) := by decide +kernel
theorem dX11_house_0 : decode cX11_house 0 = .ok (.bipush 56, 2) := by decide +kernel
theorem dX11_house_2 : decode cX11_house 2 = .ok (.bipush 7, 2) := by decide +kernel
theorem dX11_house_4 : decode cX11_house 4 = .ok (.iload_n 0, 1) := by decide +kernel
theorem dX11_house_5 : decode cX11_house 5 = .ok (.imul, 1) := by decide +kernel
theorem dX11_house_6 : decode cX11_house 6 = .ok (.iadd, 1) := by decide +kernel
theorem dX11_house_7 : decode cX11_house 7 = .ok (.ireturn, 1) := by decide +kernel
theorem dX11_walker_0 : decode cX11_walker 0 = .ok (.sipush 168, 3) := by decide +kernel
theorem dX11_walker_3 : decode cX11_walker 3 = .ok (.bipush 15, 2) := by decide +kernel
theorem dX11_walker_5 : decode cX11_walker 5 = .ok (.iload_n 0, 1) := by decide +kernel
theorem dX11_walker_6 : decode cX11_walker 6 = .ok (.imul, 1) := by decide +kernel
theorem dX11_walker_7 : decode cX11_walker 7 = .ok (.iadd, 1) := by decide +kernel
theorem dX11_walker_8 : decode cX11_walker 8 = .ok (.ireturn, 1) := by decide +kernel
theorem dX11_append_0 : decode cX11_append 0 = .ok (.aload_n 0, 1) := by decide +kernel
theorem dX11_append_1 : decode cX11_append 1 = .ok (.iconst 0, 1) := by decide +kernel
theorem dX11_append_2 : decode cX11_append 2 = .ok (.putfield 71, 3) := by decide +kernel
theorem dX11_append_5 : decode cX11_append 5 = .ok (.aload_n 0, 1) := by decide +kernel
theorem dX11_append_6 : decode cX11_append 6 = .ok (.getfield 74, 3) := by decide +kernel
theorem dX11_append_9 : decode cX11_append 9 = .ok (.bipush 20, 2) := by decide +kernel
theorem dX11_append_11 : decode cX11_append 11 = .ok (.iadd, 1) := by decide +kernel
theorem dX11_append_12 : decode cX11_append 12 = .ok (.sipush 900, 3) := by decide +kernel
theorem dX11_append_15 : decode cX11_append 15 = .ok (.if_icmp .le 5, 3) := by decide +kernel
theorem dX11_append_18 : decode cX11_append 18 = .ok (.iconst (-1), 1) := by decide +kernel
theorem dX11_append_19 : decode cX11_append 19 = .ok (.ireturn, 1) := by decide +kernel
theorem dX11_append_20 : decode cX11_append 20 = .ok (.iconst 0, 1) := by decide +kernel
theorem dX11_append_21 : decode cX11_append 21 = .ok (.istore 6, 2) := by decide +kernel
theorem dX11_append_23 : decode cX11_append 23 = .ok (.iload 6, 2) := by decide +kernel
theorem dX11_append_25 : decode cX11_append 25 = .ok (.bipush 20, 2) := by decide +kernel
theorem dX11_append_27 : decode cX11_append 27 = .ok (.if_icmp .ge 93, 3) := by decide +kernel
theorem dX11_append_30 : decode cX11_append 30 = .ok (.iload 6, 2) := by decide +kernel
theorem dX11_append_32 : decode cX11_append 32 = .ok (.iconst 4, 1) := by decide +kernel
theorem dX11_append_33 : decode cX11_append 33 = .ok (.if_icmp .ge 7, 3) := by decide +kernel
theorem dX11_append_36 : decode cX11_append 36 = .ok (.iload_n 1, 1) := by decide +kernel
theorem dX11_append_37 : decode cX11_append 37 = .ok (.goto 39, 3) := by decide +kernel
theorem dX11_append_40 : decode cX11_append 40 = .ok (.iload 6, 2) := by decide +kernel
theorem dX11_append_42 : decode cX11_append 42 = .ok (.bipush 8, 2) := by decide +kernel
theorem dX11_append_44 : decode cX11_append 44 = .ok (.if_icmp .ge 7, 3) := by decide +kernel
theorem dX11_append_47 : decode cX11_append 47 = .ok (.iload_n 2, 1) := by decide +kernel
theorem dX11_append_48 : decode cX11_append 48 = .ok (.goto 28, 3) := by decide +kernel
theorem dX11_append_51 : decode cX11_append 51 = .ok (.iload 6, 2) := by decide +kernel
theorem dX11_append_53 : decode cX11_append 53 = .ok (.bipush 12, 2) := by decide +kernel
theorem dX11_append_55 : decode cX11_append 55 = .ok (.if_icmp .ge 7, 3) := by decide +kernel
theorem dX11_append_58 : decode cX11_append 58 = .ok (.iload_n 3, 1) := by decide +kernel
theorem dX11_append_59 : decode cX11_append 59 = .ok (.goto 17, 3) := by decide +kernel
theorem dX11_append_62 : decode cX11_append 62 = .ok (.iload 6, 2) := by decide +kernel
theorem dX11_append_64 : decode cX11_append 64 = .ok (.bipush 16, 2) := by decide +kernel
theorem dX11_append_66 : decode cX11_append 66 = .ok (.if_icmp .ge 8, 3) := by decide +kernel
theorem dX11_append_69 : decode cX11_append 69 = .ok (.iload 4, 2) := by decide +kernel
theorem dX11_append_71 : decode cX11_append 71 = .ok (.goto 5, 3) := by decide +kernel
theorem dX11_append_74 : decode cX11_append 74 = .ok (.iload 5, 2) := by decide +kernel
theorem dX11_append_76 : decode cX11_append 76 = .ok (.istore 7, 2) := by decide +kernel
theorem dX11_append_78 : decode cX11_append 78 = .ok (.aload_n 0, 1) := by decide +kernel
theorem dX11_append_79 : decode cX11_append 79 = .ok (.getfield 9, 3) := by decide +kernel
theorem dX11_append_82 : decode cX11_append 82 = .ok (.aload_n 0, 1) := by decide +kernel
theorem dX11_append_83 : decode cX11_append 83 = .ok (.getfield 74, 3) := by decide +kernel
theorem dX11_append_86 : decode cX11_append 86 = .ok (.iload 7, 2) := by decide +kernel
theorem dX11_append_88 : decode cX11_append 88 = .ok (.bipush 24, 2) := by decide +kernel
theorem dX11_append_90 : decode cX11_append 90 = .ok (.bipush 8, 2) := by decide +kernel
theorem dX11_append_92 : decode cX11_append 92 = .ok (.iload 6, 2) := by decide +kernel
theorem dX11_append_94 : decode cX11_append 94 = .ok (.iconst 4, 1) := by decide +kernel
theorem dX11_append_95 : decode cX11_append 95 = .ok (.irem, 1) := by decide +kernel
theorem dX11_append_96 : decode cX11_append 96 = .ok (.imul, 1) := by decide +kernel
theorem dX11_append_97 : decode cX11_append 97 = .ok (.isub, 1) := by decide +kernel
theorem dX11_append_98 : decode cX11_append 98 = .ok (.ishr, 1) := by decide +kernel
theorem dX11_append_99 : decode cX11_append 99 = .ok (.sipush 255, 3) := by decide +kernel
theorem dX11_append_102 : decode cX11_append 102 = .ok (.iand, 1) := by decide +kernel
theorem dX11_append_103 : decode cX11_append 103 = .ok (.iastore, 1) := by decide +kernel
theorem dX11_append_104 : decode cX11_append 104 = .ok (.aload_n 0, 1) := by decide +kernel
theorem dX11_append_105 : decode cX11_append 105 = .ok (.dup, 1) := by decide +kernel
theorem dX11_append_106 : decode cX11_append 106 = .ok (.getfield 74, 3) := by decide +kernel
theorem dX11_append_109 : decode cX11_append 109 = .ok (.iconst 1, 1) := by decide +kernel
theorem dX11_append_110 : decode cX11_append 110 = .ok (.iadd, 1) := by decide +kernel
theorem dX11_append_111 : decode cX11_append 111 = .ok (.putfield 74, 3) := by decide +kernel
theorem dX11_append_114 : decode cX11_append 114 = .ok (.iinc 6 1, 3) := by decide +kernel
theorem dX11_append_117 : decode cX11_append 117 = .ok (.goto (-94), 3) := by decide +kernel
theorem dX11_append_120 : decode cX11_append 120 = .ok (.aload_n 0, 1) := by decide +kernel
theorem dX11_append_121 : decode cX11_append 121 = .ok (.getfield 74, 3) := by decide +kernel
theorem dX11_append_124 : decode cX11_append 124 = .ok (.ireturn, 1) := by decide +kernel
theorem dX11_byteAt_0 : decode cX11_byteAt 0 = .ok (.iload_n 1, 1) := by decide +kernel
theorem dX11_byteAt_1 : decode cX11_byteAt 1 = .ok (.aload_n 0, 1) := by decide +kernel
theorem dX11_byteAt_2 : decode cX11_byteAt 2 = .ok (.getfield 77, 3) := by decide +kernel
theorem dX11_byteAt_5 : decode cX11_byteAt 5 = .ok (.if_icmp .ge 12, 3) := by decide +kernel
theorem dX11_byteAt_8 : decode cX11_byteAt 8 = .ok (.aload_n 0, 1) := by decide +kernel
theorem dX11_byteAt_9 : decode cX11_byteAt 9 = .ok (.getfield 9, 3) := by decide +kernel
theorem dX11_byteAt_12 : decode cX11_byteAt 12 = .ok (.iload_n 1, 1) := by decide +kernel
theorem dX11_byteAt_13 : decode cX11_byteAt 13 = .ok (.iaload, 1) := by decide +kernel
theorem dX11_byteAt_14 : decode cX11_byteAt 14 = .ok (.goto 4, 3) := by decide +kernel
theorem dX11_byteAt_17 : decode cX11_byteAt 17 = .ok (.iconst (-1), 1) := by decide +kernel
theorem dX11_byteAt_18 : decode cX11_byteAt 18 = .ok (.ireturn, 1) := by decide +kernel
theorem dX11_next_0 : decode cX11_next 0 = .ok (.aload_n 0, 1) := by decide +kernel
theorem dX11_next_1 : decode cX11_next 1 = .ok (.aload_n 0, 1) := by decide +kernel
theorem dX11_next_2 : decode cX11_next 2 = .ok (.getfield 80, 3) := by decide +kernel
theorem dX11_next_5 : decode cX11_next 5 = .ok (.invokevirtual 83, 3) := by decide +kernel
theorem dX11_next_8 : decode cX11_next 8 = .ok (.bipush 32, 2) := by decide +kernel
theorem dX11_next_10 : decode cX11_next 10 = .ok (.if_icmp .ne 16, 3) := by decide +kernel
theorem dX11_next_13 : decode cX11_next 13 = .ok (.aload_n 0, 1) := by decide +kernel
theorem dX11_next_14 : decode cX11_next 14 = .ok (.dup, 1) := by decide +kernel
theorem dX11_next_15 : decode cX11_next 15 = .ok (.getfield 80, 3) := by decide +kernel
theorem dX11_next_18 : decode cX11_next 18 = .ok (.iconst 1, 1) := by decide +kernel
theorem dX11_next_19 : decode cX11_next 19 = .ok (.iadd, 1) := by decide +kernel
theorem dX11_next_20 : decode cX11_next 20 = .ok (.putfield 80, 3) := by decide +kernel
theorem dX11_next_23 : decode cX11_next 23 = .ok (.goto (-23), 3) := by decide +kernel
theorem dX11_next_26 : decode cX11_next 26 = .ok (.aload_n 0, 1) := by decide +kernel
theorem dX11_next_27 : decode cX11_next 27 = .ok (.aload_n 0, 1) := by decide +kernel
theorem dX11_next_28 : decode cX11_next 28 = .ok (.getfield 80, 3) := by decide +kernel
theorem dX11_next_31 : decode cX11_next 31 = .ok (.invokevirtual 83, 3) := by decide +kernel
theorem dX11_next_34 : decode cX11_next 34 = .ok (.ireturn, 1) := by decide +kernel
theorem dX11_isGood_0 : decode cX11_isGood 0 = .ok (.aload_n 0, 1) := by decide +kernel
theorem dX11_isGood_1 : decode cX11_isGood 1 = .ok (.getfield 87, 3) := by decide +kernel
theorem dX11_isGood_4 : decode cX11_isGood 4 = .ok (.ifCond .ne 7, 3) := by decide +kernel
theorem dX11_isGood_7 : decode cX11_isGood 7 = .ok (.iconst 1, 1) := by decide +kernel
theorem dX11_isGood_8 : decode cX11_isGood 8 = .ok (.goto 4, 3) := by decide +kernel
theorem dX11_isGood_11 : decode cX11_isGood 11 = .ok (.iconst 0, 1) := by decide +kernel
theorem dX11_isGood_12 : decode cX11_isGood 12 = .ok (.ireturn, 1) := by decide +kernel
theorem dX11_report_0 : decode cX11_report 0 = .ok (.aload_n 0, 1) := by decide +kernel
theorem dX11_report_1 : decode cX11_report 1 = .ok (.getfield 87, 3) := by decide +kernel
theorem dX11_report_4 : decode cX11_report 4 = .ok (.ifCond .eq 4, 3) := by decide +kernel
theorem dX11_report_7 : decode cX11_report 7 = .ok (.return_, 1) := by decide +kernel
theorem dX11_report_8 : decode cX11_report 8 = .ok (.aload_n 0, 1) := by decide +kernel
theorem dX11_report_9 : decode cX11_report 9 = .ok (.iload_n 1, 1) := by decide +kernel
theorem dX11_report_10 : decode cX11_report 10 = .ok (.putfield 87, 3) := by decide +kernel
theorem dX11_report_13 : decode cX11_report 13 = .ok (.aload_n 0, 1) := by decide +kernel
theorem dX11_report_14 : decode cX11_report 14 = .ok (.iload_n 2, 1) := by decide +kernel
theorem dX11_report_15 : decode cX11_report 15 = .ok (.putfield 90, 3) := by decide +kernel
theorem dX11_report_18 : decode cX11_report 18 = .ok (.return_, 1) := by decide +kernel
theorem dX11_isDigit_0 : decode cX11_isDigit 0 = .ok (.iload_n 0, 1) := by decide +kernel
theorem dX11_isDigit_1 : decode cX11_isDigit 1 = .ok (.bipush 48, 2) := by decide +kernel
theorem dX11_isDigit_3 : decode cX11_isDigit 3 = .ok (.bipush 57, 2) := by decide +kernel
theorem dX11_isDigit_5 : decode cX11_isDigit 5 = .ok (.invokestatic 93, 3) := by decide +kernel
theorem dX11_isDigit_8 : decode cX11_isDigit 8 = .ok (.ireturn, 1) := by decide +kernel
theorem dX11_takeWord_0 : decode cX11_takeWord 0 = .ok (.aload_n 0, 1) := by decide +kernel
theorem dX11_takeWord_1 : decode cX11_takeWord 1 = .ok (.invokevirtual 97, 3) := by decide +kernel
theorem dX11_takeWord_4 : decode cX11_takeWord 4 = .ok (.ifCond .ne 5, 3) := by decide +kernel
theorem dX11_takeWord_7 : decode cX11_takeWord 7 = .ok (.iconst 0, 1) := by decide +kernel
theorem dX11_takeWord_8 : decode cX11_takeWord 8 = .ok (.ireturn, 1) := by decide +kernel
theorem dX11_takeWord_9 : decode cX11_takeWord 9 = .ok (.aload_n 0, 1) := by decide +kernel
theorem dX11_takeWord_10 : decode cX11_takeWord 10 = .ok (.invokevirtual 101, 3) := by decide +kernel
theorem dX11_takeWord_13 : decode cX11_takeWord 13 = .ok (.pop, 1) := by decide +kernel
theorem dX11_takeWord_14 : decode cX11_takeWord 14 = .ok (.iconst 0, 1) := by decide +kernel
theorem dX11_takeWord_15 : decode cX11_takeWord 15 = .ok (.istore_n 2, 1) := by decide +kernel
theorem dX11_takeWord_16 : decode cX11_takeWord 16 = .ok (.iload_n 2, 1) := by decide +kernel
theorem dX11_takeWord_17 : decode cX11_takeWord 17 = .ok (.aload_n 1, 1) := by decide +kernel
theorem dX11_takeWord_18 : decode cX11_takeWord 18 = .ok (.invokevirtual 105, 3) := by decide +kernel
theorem dX11_takeWord_21 : decode cX11_takeWord 21 = .ok (.if_icmp .ge 27, 3) := by decide +kernel
theorem dX11_takeWord_24 : decode cX11_takeWord 24 = .ok (.aload_n 0, 1) := by decide +kernel
theorem dX11_takeWord_25 : decode cX11_takeWord 25 = .ok (.aload_n 0, 1) := by decide +kernel
theorem dX11_takeWord_26 : decode cX11_takeWord 26 = .ok (.getfield 80, 3) := by decide +kernel
theorem dX11_takeWord_29 : decode cX11_takeWord 29 = .ok (.iload_n 2, 1) := by decide +kernel
theorem dX11_takeWord_30 : decode cX11_takeWord 30 = .ok (.iadd, 1) := by decide +kernel
theorem dX11_takeWord_31 : decode cX11_takeWord 31 = .ok (.invokevirtual 83, 3) := by decide +kernel
theorem dX11_takeWord_34 : decode cX11_takeWord 34 = .ok (.aload_n 1, 1) := by decide +kernel
theorem dX11_takeWord_35 : decode cX11_takeWord 35 = .ok (.iload_n 2, 1) := by decide +kernel
theorem dX11_takeWord_36 : decode cX11_takeWord 36 = .ok (.invokevirtual 110, 3) := by decide +kernel
theorem dX11_takeWord_39 : decode cX11_takeWord 39 = .ok (.if_icmp .ne 9, 3) := by decide +kernel
theorem dX11_takeWord_42 : decode cX11_takeWord 42 = .ok (.iinc 2 1, 3) := by decide +kernel
theorem dX11_takeWord_45 : decode cX11_takeWord 45 = .ok (.goto (-29), 3) := by decide +kernel
theorem dX11_takeWord_48 : decode cX11_takeWord 48 = .ok (.iload_n 2, 1) := by decide +kernel
theorem dX11_takeWord_49 : decode cX11_takeWord 49 = .ok (.aload_n 1, 1) := by decide +kernel
theorem dX11_takeWord_50 : decode cX11_takeWord 50 = .ok (.invokevirtual 105, 3) := by decide +kernel
theorem dX11_takeWord_53 : decode cX11_takeWord 53 = .ok (.if_icmp .lt 23, 3) := by decide +kernel
theorem dX11_takeWord_56 : decode cX11_takeWord 56 = .ok (.aload_n 0, 1) := by decide +kernel
theorem dX11_takeWord_57 : decode cX11_takeWord 57 = .ok (.aload_n 0, 1) := by decide +kernel
theorem dX11_takeWord_58 : decode cX11_takeWord 58 = .ok (.getfield 80, 3) := by decide +kernel
theorem dX11_takeWord_61 : decode cX11_takeWord 61 = .ok (.iload_n 2, 1) := by decide +kernel
theorem dX11_takeWord_62 : decode cX11_takeWord 62 = .ok (.iadd, 1) := by decide +kernel
theorem dX11_takeWord_63 : decode cX11_takeWord 63 = .ok (.invokevirtual 83, 3) := by decide +kernel
theorem dX11_takeWord_66 : decode cX11_takeWord 66 = .ok (.bipush 97, 2) := by decide +kernel
theorem dX11_takeWord_68 : decode cX11_takeWord 68 = .ok (.bipush 122, 2) := by decide +kernel
theorem dX11_takeWord_70 : decode cX11_takeWord 70 = .ok (.invokestatic 93, 3) := by decide +kernel
theorem dX11_takeWord_73 : decode cX11_takeWord 73 = .ok (.ifCond .eq 5, 3) := by decide +kernel
theorem dX11_takeWord_76 : decode cX11_takeWord 76 = .ok (.iconst 0, 1) := by decide +kernel
theorem dX11_takeWord_77 : decode cX11_takeWord 77 = .ok (.ireturn, 1) := by decide +kernel
theorem dX11_takeWord_78 : decode cX11_takeWord 78 = .ok (.aload_n 0, 1) := by decide +kernel
theorem dX11_takeWord_79 : decode cX11_takeWord 79 = .ok (.dup, 1) := by decide +kernel
theorem dX11_takeWord_80 : decode cX11_takeWord 80 = .ok (.getfield 80, 3) := by decide +kernel
theorem dX11_takeWord_83 : decode cX11_takeWord 83 = .ok (.iload_n 2, 1) := by decide +kernel
theorem dX11_takeWord_84 : decode cX11_takeWord 84 = .ok (.iadd, 1) := by decide +kernel
theorem dX11_takeWord_85 : decode cX11_takeWord 85 = .ok (.putfield 80, 3) := by decide +kernel
theorem dX11_takeWord_88 : decode cX11_takeWord 88 = .ok (.iconst 1, 1) := by decide +kernel
theorem dX11_takeWord_89 : decode cX11_takeWord 89 = .ok (.ireturn, 1) := by decide +kernel
theorem dX11_expect_0 : decode cX11_expect 0 = .ok (.aload_n 0, 1) := by decide +kernel
theorem dX11_expect_1 : decode cX11_expect 1 = .ok (.invokevirtual 97, 3) := by decide +kernel
theorem dX11_expect_4 : decode cX11_expect 4 = .ok (.ifCond .ne 4, 3) := by decide +kernel
theorem dX11_expect_7 : decode cX11_expect 7 = .ok (.return_, 1) := by decide +kernel
theorem dX11_expect_8 : decode cX11_expect 8 = .ok (.aload_n 0, 1) := by decide +kernel
theorem dX11_expect_9 : decode cX11_expect 9 = .ok (.invokevirtual 101, 3) := by decide +kernel
theorem dX11_expect_12 : decode cX11_expect 12 = .ok (.iload_n 1, 1) := by decide +kernel
theorem dX11_expect_13 : decode cX11_expect 13 = .ok (.if_icmp .ne 16, 3) := by decide +kernel
theorem dX11_expect_16 : decode cX11_expect 16 = .ok (.aload_n 0, 1) := by decide +kernel
theorem dX11_expect_17 : decode cX11_expect 17 = .ok (.dup, 1) := by decide +kernel
theorem dX11_expect_18 : decode cX11_expect 18 = .ok (.getfield 80, 3) := by decide +kernel
theorem dX11_expect_21 : decode cX11_expect 21 = .ok (.iconst 1, 1) := by decide +kernel
theorem dX11_expect_22 : decode cX11_expect 22 = .ok (.iadd, 1) := by decide +kernel
theorem dX11_expect_23 : decode cX11_expect 23 = .ok (.putfield 80, 3) := by decide +kernel
theorem dX11_expect_26 : decode cX11_expect 26 = .ok (.goto 13, 3) := by decide +kernel
theorem dX11_expect_29 : decode cX11_expect 29 = .ok (.aload_n 0, 1) := by decide +kernel
theorem dX11_expect_30 : decode cX11_expect 30 = .ok (.bipush (-2), 2) := by decide +kernel
theorem dX11_expect_32 : decode cX11_expect 32 = .ok (.aload_n 0, 1) := by decide +kernel
theorem dX11_expect_33 : decode cX11_expect 33 = .ok (.getfield 80, 3) := by decide +kernel
theorem dX11_expect_36 : decode cX11_expect 36 = .ok (.invokevirtual 114, 3) := by decide +kernel
theorem dX11_expect_39 : decode cX11_expect 39 = .ok (.return_, 1) := by decide +kernel
theorem dX11_number_0 : decode cX11_number 0 = .ok (.aload_n 0, 1) := by decide +kernel
theorem dX11_number_1 : decode cX11_number 1 = .ok (.invokevirtual 97, 3) := by decide +kernel
theorem dX11_number_4 : decode cX11_number 4 = .ok (.ifCond .ne 5, 3) := by decide +kernel
theorem dX11_number_7 : decode cX11_number 7 = .ok (.iconst 0, 1) := by decide +kernel
theorem dX11_number_8 : decode cX11_number 8 = .ok (.ireturn, 1) := by decide +kernel
theorem dX11_number_9 : decode cX11_number 9 = .ok (.aload_n 0, 1) := by decide +kernel
theorem dX11_number_10 : decode cX11_number 10 = .ok (.invokevirtual 101, 3) := by decide +kernel
theorem dX11_number_13 : decode cX11_number 13 = .ok (.invokestatic 118, 3) := by decide +kernel
theorem dX11_number_16 : decode cX11_number 16 = .ok (.ifCond .ne 15, 3) := by decide +kernel
theorem dX11_number_19 : decode cX11_number 19 = .ok (.aload_n 0, 1) := by decide +kernel
theorem dX11_number_20 : decode cX11_number 20 = .ok (.bipush (-2), 2) := by decide +kernel
theorem dX11_number_22 : decode cX11_number 22 = .ok (.aload_n 0, 1) := by decide +kernel
theorem dX11_number_23 : decode cX11_number 23 = .ok (.getfield 80, 3) := by decide +kernel
theorem dX11_number_26 : decode cX11_number 26 = .ok (.invokevirtual 114, 3) := by decide +kernel
theorem dX11_number_29 : decode cX11_number 29 = .ok (.iconst 0, 1) := by decide +kernel
theorem dX11_number_30 : decode cX11_number 30 = .ok (.ireturn, 1) := by decide +kernel
theorem dX11_number_31 : decode cX11_number 31 = .ok (.aload_n 0, 1) := by decide +kernel
theorem dX11_number_32 : decode cX11_number 32 = .ok (.aload_n 0, 1) := by decide +kernel
theorem dX11_number_33 : decode cX11_number 33 = .ok (.getfield 80, 3) := by decide +kernel
theorem dX11_number_36 : decode cX11_number 36 = .ok (.putfield 122, 3) := by decide +kernel
theorem dX11_number_39 : decode cX11_number 39 = .ok (.iconst 0, 1) := by decide +kernel
theorem dX11_number_40 : decode cX11_number 40 = .ok (.istore_n 3, 1) := by decide +kernel
theorem dX11_number_41 : decode cX11_number 41 = .ok (.aload_n 0, 1) := by decide +kernel
theorem dX11_number_42 : decode cX11_number 42 = .ok (.aload_n 0, 1) := by decide +kernel
theorem dX11_number_43 : decode cX11_number 43 = .ok (.getfield 80, 3) := by decide +kernel
theorem dX11_number_46 : decode cX11_number 46 = .ok (.invokevirtual 83, 3) := by decide +kernel
theorem dX11_number_49 : decode cX11_number 49 = .ok (.invokestatic 118, 3) := by decide +kernel
theorem dX11_number_52 : decode cX11_number 52 = .ok (.ifCond .eq 38, 3) := by decide +kernel
theorem dX11_number_55 : decode cX11_number 55 = .ok (.ldc 125, 2) := by decide +kernel
theorem dX11_number_57 : decode cX11_number 57 = .ok (.bipush 10, 2) := by decide +kernel
theorem dX11_number_59 : decode cX11_number 59 = .ok (.iload_n 3, 1) := by decide +kernel
theorem dX11_number_60 : decode cX11_number 60 = .ok (.imul, 1) := by decide +kernel
theorem dX11_number_61 : decode cX11_number 61 = .ok (.aload_n 0, 1) := by decide +kernel
theorem dX11_number_62 : decode cX11_number 62 = .ok (.aload_n 0, 1) := by decide +kernel
theorem dX11_number_63 : decode cX11_number 63 = .ok (.getfield 80, 3) := by decide +kernel
theorem dX11_number_66 : decode cX11_number 66 = .ok (.invokevirtual 83, 3) := by decide +kernel
theorem dX11_number_69 : decode cX11_number 69 = .ok (.iadd, 1) := by decide +kernel
theorem dX11_number_70 : decode cX11_number 70 = .ok (.bipush 48, 2) := by decide +kernel
theorem dX11_number_72 : decode cX11_number 72 = .ok (.isub, 1) := by decide +kernel
theorem dX11_number_73 : decode cX11_number 73 = .ok (.invokestatic 126, 3) := by decide +kernel
theorem dX11_number_76 : decode cX11_number 76 = .ok (.istore_n 3, 1) := by decide +kernel
theorem dX11_number_77 : decode cX11_number 77 = .ok (.aload_n 0, 1) := by decide +kernel
theorem dX11_number_78 : decode cX11_number 78 = .ok (.dup, 1) := by decide +kernel
theorem dX11_number_79 : decode cX11_number 79 = .ok (.getfield 80, 3) := by decide +kernel
theorem dX11_number_82 : decode cX11_number 82 = .ok (.iconst 1, 1) := by decide +kernel
theorem dX11_number_83 : decode cX11_number 83 = .ok (.iadd, 1) := by decide +kernel
theorem dX11_number_84 : decode cX11_number 84 = .ok (.putfield 80, 3) := by decide +kernel
theorem dX11_number_87 : decode cX11_number 87 = .ok (.goto (-46), 3) := by decide +kernel
theorem dX11_number_90 : decode cX11_number 90 = .ok (.iload_n 3, 1) := by decide +kernel
theorem dX11_number_91 : decode cX11_number 91 = .ok (.iload_n 1, 1) := by decide +kernel
theorem dX11_number_92 : decode cX11_number 92 = .ok (.iload_n 2, 1) := by decide +kernel
theorem dX11_number_93 : decode cX11_number 93 = .ok (.invokestatic 93, 3) := by decide +kernel
theorem dX11_number_96 : decode cX11_number 96 = .ok (.ifCond .ne 13, 3) := by decide +kernel
theorem dX11_number_99 : decode cX11_number 99 = .ok (.aload_n 0, 1) := by decide +kernel
theorem dX11_number_100 : decode cX11_number 100 = .ok (.bipush (-3), 2) := by decide +kernel
theorem dX11_number_102 : decode cX11_number 102 = .ok (.aload_n 0, 1) := by decide +kernel
theorem dX11_number_103 : decode cX11_number 103 = .ok (.getfield 122, 3) := by decide +kernel
theorem dX11_number_106 : decode cX11_number 106 = .ok (.invokevirtual 114, 3) := by decide +kernel
theorem dX11_number_109 : decode cX11_number 109 = .ok (.iload_n 3, 1) := by decide +kernel
theorem dX11_number_110 : decode cX11_number 110 = .ok (.ireturn, 1) := by decide +kernel
theorem dX11_emit_0 : decode cX11_emit 0 = .ok (.aload_n 0, 1) := by decide +kernel
theorem dX11_emit_1 : decode cX11_emit 1 = .ok (.invokevirtual 97, 3) := by decide +kernel
theorem dX11_emit_4 : decode cX11_emit 4 = .ok (.ifCond .ne 4, 3) := by decide +kernel
theorem dX11_emit_7 : decode cX11_emit 7 = .ok (.return_, 1) := by decide +kernel
theorem dX11_emit_8 : decode cX11_emit 8 = .ok (.aload_n 0, 1) := by decide +kernel
theorem dX11_emit_9 : decode cX11_emit 9 = .ok (.getfield 20, 3) := by decide +kernel
theorem dX11_emit_12 : decode cX11_emit 12 = .ok (.sipush 213, 3) := by decide +kernel
theorem dX11_emit_15 : decode cX11_emit 15 = .ok (.aload_n 0, 1) := by decide +kernel
theorem dX11_emit_16 : decode cX11_emit 16 = .ok (.getfield 20, 3) := by decide +kernel
theorem dX11_emit_19 : decode cX11_emit 19 = .ok (.bipush 7, 2) := by decide +kernel
theorem dX11_emit_21 : decode cX11_emit 21 = .ok (.iaload, 1) := by decide +kernel
theorem dX11_emit_22 : decode cX11_emit 22 = .ok (.iadd, 1) := by decide +kernel
theorem dX11_emit_23 : decode cX11_emit 23 = .ok (.iload_n 1, 1) := by decide +kernel
theorem dX11_emit_24 : decode cX11_emit 24 = .ok (.iastore, 1) := by decide +kernel
theorem dX11_emit_25 : decode cX11_emit 25 = .ok (.aload_n 0, 1) := by decide +kernel
theorem dX11_emit_26 : decode cX11_emit 26 = .ok (.getfield 20, 3) := by decide +kernel
theorem dX11_emit_29 : decode cX11_emit 29 = .ok (.bipush 7, 2) := by decide +kernel
theorem dX11_emit_31 : decode cX11_emit 31 = .ok (.dup2, 1) := by decide +kernel
theorem dX11_emit_32 : decode cX11_emit 32 = .ok (.iaload, 1) := by decide +kernel
theorem dX11_emit_33 : decode cX11_emit 33 = .ok (.iconst 1, 1) := by decide +kernel
theorem dX11_emit_34 : decode cX11_emit 34 = .ok (.iadd, 1) := by decide +kernel
theorem dX11_emit_35 : decode cX11_emit 35 = .ok (.iastore, 1) := by decide +kernel
theorem dX11_emit_36 : decode cX11_emit 36 = .ok (.return_, 1) := by decide +kernel
theorem dX11_factor_0 : decode cX11_factor 0 = .ok (.aload_n 0, 1) := by decide +kernel
theorem dX11_factor_1 : decode cX11_factor 1 = .ok (.invokevirtual 97, 3) := by decide +kernel
theorem dX11_factor_4 : decode cX11_factor 4 = .ok (.ifCond .ne 4, 3) := by decide +kernel
theorem dX11_factor_7 : decode cX11_factor 7 = .ok (.return_, 1) := by decide +kernel
theorem dX11_factor_8 : decode cX11_factor 8 = .ok (.aload_n 0, 1) := by decide +kernel
theorem dX11_factor_9 : decode cX11_factor 9 = .ok (.invokevirtual 101, 3) := by decide +kernel
theorem dX11_factor_12 : decode cX11_factor 12 = .ok (.istore_n 1, 1) := by decide +kernel
theorem dX11_factor_13 : decode cX11_factor 13 = .ok (.iload_n 1, 1) := by decide +kernel
theorem dX11_factor_14 : decode cX11_factor 14 = .ok (.bipush 40, 2) := by decide +kernel
theorem dX11_factor_16 : decode cX11_factor 16 = .ok (.if_icmp .ne 62, 3) := by decide +kernel
theorem dX11_factor_19 : decode cX11_factor 19 = .ok (.aload_n 0, 1) := by decide +kernel
theorem dX11_factor_20 : decode cX11_factor 20 = .ok (.getfield 130, 3) := by decide +kernel
theorem dX11_factor_23 : decode cX11_factor 23 = .ok (.iconst 4, 1) := by decide +kernel
theorem dX11_factor_24 : decode cX11_factor 24 = .ok (.if_icmp .ne 13, 3) := by decide +kernel
theorem dX11_factor_27 : decode cX11_factor 27 = .ok (.aload_n 0, 1) := by decide +kernel
theorem dX11_factor_28 : decode cX11_factor 28 = .ok (.bipush (-5), 2) := by decide +kernel
theorem dX11_factor_30 : decode cX11_factor 30 = .ok (.aload_n 0, 1) := by decide +kernel
theorem dX11_factor_31 : decode cX11_factor 31 = .ok (.getfield 80, 3) := by decide +kernel
theorem dX11_factor_34 : decode cX11_factor 34 = .ok (.invokevirtual 114, 3) := by decide +kernel
theorem dX11_factor_37 : decode cX11_factor 37 = .ok (.aload_n 0, 1) := by decide +kernel
theorem dX11_factor_38 : decode cX11_factor 38 = .ok (.dup, 1) := by decide +kernel
theorem dX11_factor_39 : decode cX11_factor 39 = .ok (.getfield 80, 3) := by decide +kernel
theorem dX11_factor_42 : decode cX11_factor 42 = .ok (.iconst 1, 1) := by decide +kernel
theorem dX11_factor_43 : decode cX11_factor 43 = .ok (.iadd, 1) := by decide +kernel
theorem dX11_factor_44 : decode cX11_factor 44 = .ok (.putfield 80, 3) := by decide +kernel
theorem dX11_factor_47 : decode cX11_factor 47 = .ok (.aload_n 0, 1) := by decide +kernel
theorem dX11_factor_48 : decode cX11_factor 48 = .ok (.dup, 1) := by decide +kernel
theorem dX11_factor_49 : decode cX11_factor 49 = .ok (.getfield 130, 3) := by decide +kernel
theorem dX11_factor_52 : decode cX11_factor 52 = .ok (.iconst 1, 1) := by decide +kernel
theorem dX11_factor_53 : decode cX11_factor 53 = .ok (.iadd, 1) := by decide +kernel
theorem dX11_factor_54 : decode cX11_factor 54 = .ok (.putfield 130, 3) := by decide +kernel
theorem dX11_factor_57 : decode cX11_factor 57 = .ok (.aload_n 0, 1) := by decide +kernel
theorem dX11_factor_58 : decode cX11_factor 58 = .ok (.invokevirtual 133, 3) := by decide +kernel
theorem dX11_factor_61 : decode cX11_factor 61 = .ok (.aload_n 0, 1) := by decide +kernel
theorem dX11_factor_62 : decode cX11_factor 62 = .ok (.bipush 41, 2) := by decide +kernel
theorem dX11_factor_64 : decode cX11_factor 64 = .ok (.invokevirtual 136, 3) := by decide +kernel
theorem dX11_factor_67 : decode cX11_factor 67 = .ok (.aload_n 0, 1) := by decide +kernel
theorem dX11_factor_68 : decode cX11_factor 68 = .ok (.dup, 1) := by decide +kernel
theorem dX11_factor_69 : decode cX11_factor 69 = .ok (.getfield 130, 3) := by decide +kernel
theorem dX11_factor_72 : decode cX11_factor 72 = .ok (.iconst 1, 1) := by decide +kernel
theorem dX11_factor_73 : decode cX11_factor 73 = .ok (.isub, 1) := by decide +kernel
theorem dX11_factor_74 : decode cX11_factor 74 = .ok (.putfield 130, 3) := by decide +kernel
theorem dX11_factor_77 : decode cX11_factor 77 = .ok (.return_, 1) := by decide +kernel
theorem dX11_factor_78 : decode cX11_factor 78 = .ok (.iload_n 1, 1) := by decide +kernel
theorem dX11_factor_79 : decode cX11_factor 79 = .ok (.invokestatic 118, 3) := by decide +kernel
theorem dX11_factor_82 : decode cX11_factor 82 = .ok (.ifCond .eq 7, 3) := by decide +kernel
theorem dX11_factor_85 : decode cX11_factor 85 = .ok (.iconst (-1), 1) := by decide +kernel
theorem dX11_factor_86 : decode cX11_factor 86 = .ok (.goto 43, 3) := by decide +kernel
theorem dX11_factor_89 : decode cX11_factor 89 = .ok (.aload_n 0, 1) := by decide +kernel
theorem dX11_factor_90 : decode cX11_factor 90 = .ok (.ldc 140, 2) := by decide +kernel
theorem dX11_factor_92 : decode cX11_factor 92 = .ok (.invokevirtual 142, 3) := by decide +kernel
theorem dX11_factor_95 : decode cX11_factor 95 = .ok (.ifCond .eq 7, 3) := by decide +kernel
theorem dX11_factor_98 : decode cX11_factor 98 = .ok (.iconst 0, 1) := by decide +kernel
theorem dX11_factor_99 : decode cX11_factor 99 = .ok (.goto 30, 3) := by decide +kernel
theorem dX11_factor_102 : decode cX11_factor 102 = .ok (.aload_n 0, 1) := by decide +kernel
theorem dX11_factor_103 : decode cX11_factor 103 = .ok (.ldc 146, 2) := by decide +kernel
theorem dX11_factor_105 : decode cX11_factor 105 = .ok (.invokevirtual 142, 3) := by decide +kernel
theorem dX11_factor_108 : decode cX11_factor 108 = .ok (.ifCond .eq 7, 3) := by decide +kernel
theorem dX11_factor_111 : decode cX11_factor 111 = .ok (.iconst 1, 1) := by decide +kernel
theorem dX11_factor_112 : decode cX11_factor 112 = .ok (.goto 17, 3) := by decide +kernel
theorem dX11_factor_115 : decode cX11_factor 115 = .ok (.aload_n 0, 1) := by decide +kernel
theorem dX11_factor_116 : decode cX11_factor 116 = .ok (.ldc 148, 2) := by decide +kernel
theorem dX11_factor_118 : decode cX11_factor 118 = .ok (.invokevirtual 142, 3) := by decide +kernel
theorem dX11_factor_121 : decode cX11_factor 121 = .ok (.ifCond .eq 7, 3) := by decide +kernel
theorem dX11_factor_124 : decode cX11_factor 124 = .ok (.iconst 2, 1) := by decide +kernel
theorem dX11_factor_125 : decode cX11_factor 125 = .ok (.goto 4, 3) := by decide +kernel
theorem dX11_factor_128 : decode cX11_factor 128 = .ok (.iconst (-1), 1) := by decide +kernel
theorem dX11_factor_129 : decode cX11_factor 129 = .ok (.istore_n 2, 1) := by decide +kernel
theorem dX11_factor_130 : decode cX11_factor 130 = .ok (.iload_n 2, 1) := by decide +kernel
theorem dX11_factor_131 : decode cX11_factor 131 = .ok (.ifCond .ge 14, 3) := by decide +kernel
theorem dX11_factor_134 : decode cX11_factor 134 = .ok (.aload_n 0, 1) := by decide +kernel
theorem dX11_factor_135 : decode cX11_factor 135 = .ok (.iconst 0, 1) := by decide +kernel
theorem dX11_factor_136 : decode cX11_factor 136 = .ok (.sipush 9999, 3) := by decide +kernel
theorem dX11_factor_139 : decode cX11_factor 139 = .ok (.invokevirtual 150, 3) := by decide +kernel
theorem dX11_factor_142 : decode cX11_factor 142 = .ok (.goto 4, 3) := by decide +kernel
theorem dX11_factor_145 : decode cX11_factor 145 = .ok (.iload_n 2, 1) := by decide +kernel
theorem dX11_factor_146 : decode cX11_factor 146 = .ok (.istore_n 3, 1) := by decide +kernel
theorem dX11_factor_147 : decode cX11_factor 147 = .ok (.aload_n 0, 1) := by decide +kernel
theorem dX11_factor_148 : decode cX11_factor 148 = .ok (.iload_n 2, 1) := by decide +kernel
theorem dX11_factor_149 : decode cX11_factor 149 = .ok (.ifCond .ge 7, 3) := by decide +kernel
theorem dX11_factor_152 : decode cX11_factor 152 = .ok (.iconst 0, 1) := by decide +kernel
theorem dX11_factor_153 : decode cX11_factor 153 = .ok (.goto 4, 3) := by decide +kernel
theorem dX11_factor_156 : decode cX11_factor 156 = .ok (.iconst 1, 1) := by decide +kernel
theorem dX11_factor_157 : decode cX11_factor 157 = .ok (.invokevirtual 153, 3) := by decide +kernel
theorem dX11_factor_160 : decode cX11_factor 160 = .ok (.aload_n 0, 1) := by decide +kernel
theorem dX11_factor_161 : decode cX11_factor 161 = .ok (.iload_n 3, 1) := by decide +kernel
theorem dX11_factor_162 : decode cX11_factor 162 = .ok (.invokevirtual 153, 3) := by decide +kernel
theorem dX11_factor_165 : decode cX11_factor 165 = .ok (.return_, 1) := by decide +kernel
theorem dX11_term_0 : decode cX11_term 0 = .ok (.aload_n 0, 1) := by decide +kernel
theorem dX11_term_1 : decode cX11_term 1 = .ok (.invokevirtual 156, 3) := by decide +kernel
theorem dX11_term_4 : decode cX11_term 4 = .ok (.aload_n 0, 1) := by decide +kernel
theorem dX11_term_5 : decode cX11_term 5 = .ok (.invokevirtual 97, 3) := by decide +kernel
theorem dX11_term_8 : decode cX11_term 8 = .ok (.ifCond .eq 66, 3) := by decide +kernel
theorem dX11_term_11 : decode cX11_term 11 = .ok (.aload_n 0, 1) := by decide +kernel
theorem dX11_term_12 : decode cX11_term 12 = .ok (.invokevirtual 101, 3) := by decide +kernel
theorem dX11_term_15 : decode cX11_term 15 = .ok (.bipush 42, 2) := by decide +kernel
theorem dX11_term_17 : decode cX11_term 17 = .ok (.if_icmp .eq 12, 3) := by decide +kernel
theorem dX11_term_20 : decode cX11_term 20 = .ok (.aload_n 0, 1) := by decide +kernel
theorem dX11_term_21 : decode cX11_term 21 = .ok (.invokevirtual 101, 3) := by decide +kernel
theorem dX11_term_24 : decode cX11_term 24 = .ok (.bipush 47, 2) := by decide +kernel
theorem dX11_term_26 : decode cX11_term 26 = .ok (.if_icmp .ne 48, 3) := by decide +kernel
theorem dX11_term_29 : decode cX11_term 29 = .ok (.aload_n 0, 1) := by decide +kernel
theorem dX11_term_30 : decode cX11_term 30 = .ok (.invokevirtual 101, 3) := by decide +kernel
theorem dX11_term_33 : decode cX11_term 33 = .ok (.bipush 42, 2) := by decide +kernel
theorem dX11_term_35 : decode cX11_term 35 = .ok (.if_icmp .ne 7, 3) := by decide +kernel
theorem dX11_term_38 : decode cX11_term 38 = .ok (.iconst 1, 1) := by decide +kernel
theorem dX11_term_39 : decode cX11_term 39 = .ok (.goto 4, 3) := by decide +kernel
theorem dX11_term_42 : decode cX11_term 42 = .ok (.iconst 0, 1) := by decide +kernel
theorem dX11_term_43 : decode cX11_term 43 = .ok (.istore_n 1, 1) := by decide +kernel
theorem dX11_term_44 : decode cX11_term 44 = .ok (.aload_n 0, 1) := by decide +kernel
theorem dX11_term_45 : decode cX11_term 45 = .ok (.dup, 1) := by decide +kernel
theorem dX11_term_46 : decode cX11_term 46 = .ok (.getfield 80, 3) := by decide +kernel
theorem dX11_term_49 : decode cX11_term 49 = .ok (.iconst 1, 1) := by decide +kernel
theorem dX11_term_50 : decode cX11_term 50 = .ok (.iadd, 1) := by decide +kernel
theorem dX11_term_51 : decode cX11_term 51 = .ok (.putfield 80, 3) := by decide +kernel
theorem dX11_term_54 : decode cX11_term 54 = .ok (.aload_n 0, 1) := by decide +kernel
theorem dX11_term_55 : decode cX11_term 55 = .ok (.invokevirtual 156, 3) := by decide +kernel
theorem dX11_term_58 : decode cX11_term 58 = .ok (.aload_n 0, 1) := by decide +kernel
theorem dX11_term_59 : decode cX11_term 59 = .ok (.iload_n 1, 1) := by decide +kernel
theorem dX11_term_60 : decode cX11_term 60 = .ok (.ifCond .eq 7, 3) := by decide +kernel
theorem dX11_term_63 : decode cX11_term 63 = .ok (.iconst 4, 1) := by decide +kernel
theorem dX11_term_64 : decode cX11_term 64 = .ok (.goto 4, 3) := by decide +kernel
theorem dX11_term_67 : decode cX11_term 67 = .ok (.iconst 5, 1) := by decide +kernel
theorem dX11_term_68 : decode cX11_term 68 = .ok (.invokevirtual 153, 3) := by decide +kernel
theorem dX11_term_71 : decode cX11_term 71 = .ok (.goto (-67), 3) := by decide +kernel
theorem dX11_term_74 : decode cX11_term 74 = .ok (.return_, 1) := by decide +kernel
theorem dX11_sum_0 : decode cX11_sum 0 = .ok (.aload_n 0, 1) := by decide +kernel
theorem dX11_sum_1 : decode cX11_sum 1 = .ok (.invokevirtual 159, 3) := by decide +kernel
theorem dX11_sum_4 : decode cX11_sum 4 = .ok (.aload_n 0, 1) := by decide +kernel
theorem dX11_sum_5 : decode cX11_sum 5 = .ok (.invokevirtual 97, 3) := by decide +kernel
theorem dX11_sum_8 : decode cX11_sum 8 = .ok (.ifCond .eq 66, 3) := by decide +kernel
theorem dX11_sum_11 : decode cX11_sum 11 = .ok (.aload_n 0, 1) := by decide +kernel
theorem dX11_sum_12 : decode cX11_sum 12 = .ok (.invokevirtual 101, 3) := by decide +kernel
theorem dX11_sum_15 : decode cX11_sum 15 = .ok (.bipush 43, 2) := by decide +kernel
theorem dX11_sum_17 : decode cX11_sum 17 = .ok (.if_icmp .eq 12, 3) := by decide +kernel
theorem dX11_sum_20 : decode cX11_sum 20 = .ok (.aload_n 0, 1) := by decide +kernel
theorem dX11_sum_21 : decode cX11_sum 21 = .ok (.invokevirtual 101, 3) := by decide +kernel
theorem dX11_sum_24 : decode cX11_sum 24 = .ok (.bipush 45, 2) := by decide +kernel
theorem dX11_sum_26 : decode cX11_sum 26 = .ok (.if_icmp .ne 48, 3) := by decide +kernel
theorem dX11_sum_29 : decode cX11_sum 29 = .ok (.aload_n 0, 1) := by decide +kernel
theorem dX11_sum_30 : decode cX11_sum 30 = .ok (.invokevirtual 101, 3) := by decide +kernel
theorem dX11_sum_33 : decode cX11_sum 33 = .ok (.bipush 43, 2) := by decide +kernel
theorem dX11_sum_35 : decode cX11_sum 35 = .ok (.if_icmp .ne 7, 3) := by decide +kernel
theorem dX11_sum_38 : decode cX11_sum 38 = .ok (.iconst 1, 1) := by decide +kernel
theorem dX11_sum_39 : decode cX11_sum 39 = .ok (.goto 4, 3) := by decide +kernel
theorem dX11_sum_42 : decode cX11_sum 42 = .ok (.iconst 0, 1) := by decide +kernel
theorem dX11_sum_43 : decode cX11_sum 43 = .ok (.istore_n 1, 1) := by decide +kernel
theorem dX11_sum_44 : decode cX11_sum 44 = .ok (.aload_n 0, 1) := by decide +kernel
theorem dX11_sum_45 : decode cX11_sum 45 = .ok (.dup, 1) := by decide +kernel
theorem dX11_sum_46 : decode cX11_sum 46 = .ok (.getfield 80, 3) := by decide +kernel
theorem dX11_sum_49 : decode cX11_sum 49 = .ok (.iconst 1, 1) := by decide +kernel
theorem dX11_sum_50 : decode cX11_sum 50 = .ok (.iadd, 1) := by decide +kernel
theorem dX11_sum_51 : decode cX11_sum 51 = .ok (.putfield 80, 3) := by decide +kernel
theorem dX11_sum_54 : decode cX11_sum 54 = .ok (.aload_n 0, 1) := by decide +kernel
theorem dX11_sum_55 : decode cX11_sum 55 = .ok (.invokevirtual 159, 3) := by decide +kernel
theorem dX11_sum_58 : decode cX11_sum 58 = .ok (.aload_n 0, 1) := by decide +kernel
theorem dX11_sum_59 : decode cX11_sum 59 = .ok (.iload_n 1, 1) := by decide +kernel
theorem dX11_sum_60 : decode cX11_sum 60 = .ok (.ifCond .eq 7, 3) := by decide +kernel
theorem dX11_sum_63 : decode cX11_sum 63 = .ok (.iconst 2, 1) := by decide +kernel
theorem dX11_sum_64 : decode cX11_sum 64 = .ok (.goto 4, 3) := by decide +kernel
theorem dX11_sum_67 : decode cX11_sum 67 = .ok (.iconst 3, 1) := by decide +kernel
theorem dX11_sum_68 : decode cX11_sum 68 = .ok (.invokevirtual 153, 3) := by decide +kernel
theorem dX11_sum_71 : decode cX11_sum 71 = .ok (.goto (-67), 3) := by decide +kernel
theorem dX11_sum_74 : decode cX11_sum 74 = .ok (.return_, 1) := by decide +kernel
theorem dX11_readStreet_0 : decode cX11_readStreet 0 = .ok (.aload_n 0, 1) := by decide +kernel
theorem dX11_readStreet_1 : decode cX11_readStreet 1 = .ok (.getfield 20, 3) := by decide +kernel
theorem dX11_readStreet_4 : decode cX11_readStreet 4 = .ok (.iconst 1, 1) := by decide +kernel
theorem dX11_readStreet_5 : decode cX11_readStreet 5 = .ok (.iaload, 1) := by decide +kernel
theorem dX11_readStreet_6 : decode cX11_readStreet 6 = .ok (.bipush 12, 2) := by decide +kernel
theorem dX11_readStreet_8 : decode cX11_readStreet 8 = .ok (.if_icmp .ne 10, 3) := by decide +kernel
theorem dX11_readStreet_11 : decode cX11_readStreet 11 = .ok (.aload_n 0, 1) := by decide +kernel
theorem dX11_readStreet_12 : decode cX11_readStreet 12 = .ok (.bipush (-4), 2) := by decide +kernel
theorem dX11_readStreet_14 : decode cX11_readStreet 14 = .ok (.iload_n 1, 1) := by decide +kernel
theorem dX11_readStreet_15 : decode cX11_readStreet 15 = .ok (.invokevirtual 114, 3) := by decide +kernel
theorem dX11_readStreet_18 : decode cX11_readStreet 18 = .ok (.aload_n 0, 1) := by decide +kernel
theorem dX11_readStreet_19 : decode cX11_readStreet 19 = .ok (.invokevirtual 97, 3) := by decide +kernel
theorem dX11_readStreet_22 : decode cX11_readStreet 22 = .ok (.ifCond .ne 4, 3) := by decide +kernel
theorem dX11_readStreet_25 : decode cX11_readStreet 25 = .ok (.return_, 1) := by decide +kernel
theorem dX11_readStreet_26 : decode cX11_readStreet 26 = .ok (.aload_n 0, 1) := by decide +kernel
theorem dX11_readStreet_27 : decode cX11_readStreet 27 = .ok (.getfield 20, 3) := by decide +kernel
theorem dX11_readStreet_30 : decode cX11_readStreet 30 = .ok (.iconst 1, 1) := by decide +kernel
theorem dX11_readStreet_31 : decode cX11_readStreet 31 = .ok (.iaload, 1) := by decide +kernel
theorem dX11_readStreet_32 : decode cX11_readStreet 32 = .ok (.invokestatic 162, 3) := by decide +kernel
theorem dX11_readStreet_35 : decode cX11_readStreet 35 = .ok (.istore_n 2, 1) := by decide +kernel
theorem dX11_readStreet_36 : decode cX11_readStreet 36 = .ok (.aload_n 0, 1) := by decide +kernel
theorem dX11_readStreet_37 : decode cX11_readStreet 37 = .ok (.getfield 20, 3) := by decide +kernel
theorem dX11_readStreet_40 : decode cX11_readStreet 40 = .ok (.iload_n 2, 1) := by decide +kernel
theorem dX11_readStreet_41 : decode cX11_readStreet 41 = .ok (.aload_n 0, 1) := by decide +kernel
theorem dX11_readStreet_42 : decode cX11_readStreet 42 = .ok (.iconst 0, 1) := by decide +kernel
theorem dX11_readStreet_43 : decode cX11_readStreet 43 = .ok (.aload_n 0, 1) := by decide +kernel
theorem dX11_readStreet_44 : decode cX11_readStreet 44 = .ok (.getfield 20, 3) := by decide +kernel
theorem dX11_readStreet_47 : decode cX11_readStreet 47 = .ok (.iconst 0, 1) := by decide +kernel
theorem dX11_readStreet_48 : decode cX11_readStreet 48 = .ok (.iaload, 1) := by decide +kernel
theorem dX11_readStreet_49 : decode cX11_readStreet 49 = .ok (.iconst 1, 1) := by decide +kernel
theorem dX11_readStreet_50 : decode cX11_readStreet 50 = .ok (.isub, 1) := by decide +kernel
theorem dX11_readStreet_51 : decode cX11_readStreet 51 = .ok (.invokevirtual 150, 3) := by decide +kernel
theorem dX11_readStreet_54 : decode cX11_readStreet 54 = .ok (.iastore, 1) := by decide +kernel
theorem dX11_readStreet_55 : decode cX11_readStreet 55 = .ok (.aload_n 0, 1) := by decide +kernel
theorem dX11_readStreet_56 : decode cX11_readStreet 56 = .ok (.getfield 20, 3) := by decide +kernel
theorem dX11_readStreet_59 : decode cX11_readStreet 59 = .ok (.iload_n 2, 1) := by decide +kernel
theorem dX11_readStreet_60 : decode cX11_readStreet 60 = .ok (.iconst 1, 1) := by decide +kernel
theorem dX11_readStreet_61 : decode cX11_readStreet 61 = .ok (.iadd, 1) := by decide +kernel
theorem dX11_readStreet_62 : decode cX11_readStreet 62 = .ok (.aload_n 0, 1) := by decide +kernel
theorem dX11_readStreet_63 : decode cX11_readStreet 63 = .ok (.iconst 0, 1) := by decide +kernel
theorem dX11_readStreet_64 : decode cX11_readStreet 64 = .ok (.aload_n 0, 1) := by decide +kernel
theorem dX11_readStreet_65 : decode cX11_readStreet 65 = .ok (.getfield 20, 3) := by decide +kernel
theorem dX11_readStreet_68 : decode cX11_readStreet 68 = .ok (.iconst 0, 1) := by decide +kernel
theorem dX11_readStreet_69 : decode cX11_readStreet 69 = .ok (.iaload, 1) := by decide +kernel
theorem dX11_readStreet_70 : decode cX11_readStreet 70 = .ok (.iconst 1, 1) := by decide +kernel
theorem dX11_readStreet_71 : decode cX11_readStreet 71 = .ok (.isub, 1) := by decide +kernel
theorem dX11_readStreet_72 : decode cX11_readStreet 72 = .ok (.invokevirtual 150, 3) := by decide +kernel
theorem dX11_readStreet_75 : decode cX11_readStreet 75 = .ok (.iastore, 1) := by decide +kernel
theorem dX11_readStreet_76 : decode cX11_readStreet 76 = .ok (.aload_n 0, 1) := by decide +kernel
theorem dX11_readStreet_77 : decode cX11_readStreet 77 = .ok (.getfield 20, 3) := by decide +kernel
theorem dX11_readStreet_80 : decode cX11_readStreet 80 = .ok (.iload_n 2, 1) := by decide +kernel
theorem dX11_readStreet_81 : decode cX11_readStreet 81 = .ok (.iaload, 1) := by decide +kernel
theorem dX11_readStreet_82 : decode cX11_readStreet 82 = .ok (.aload_n 0, 1) := by decide +kernel
theorem dX11_readStreet_83 : decode cX11_readStreet 83 = .ok (.getfield 20, 3) := by decide +kernel
theorem dX11_readStreet_86 : decode cX11_readStreet 86 = .ok (.iload_n 2, 1) := by decide +kernel
theorem dX11_readStreet_87 : decode cX11_readStreet 87 = .ok (.iconst 1, 1) := by decide +kernel
theorem dX11_readStreet_88 : decode cX11_readStreet 88 = .ok (.iadd, 1) := by decide +kernel
theorem dX11_readStreet_89 : decode cX11_readStreet 89 = .ok (.iaload, 1) := by decide +kernel
theorem dX11_readStreet_90 : decode cX11_readStreet 90 = .ok (.if_icmp .ne 13, 3) := by decide +kernel
theorem dX11_readStreet_93 : decode cX11_readStreet 93 = .ok (.aload_n 0, 1) := by decide +kernel
theorem dX11_readStreet_94 : decode cX11_readStreet 94 = .ok (.bipush (-3), 2) := by decide +kernel
theorem dX11_readStreet_96 : decode cX11_readStreet 96 = .ok (.aload_n 0, 1) := by decide +kernel
theorem dX11_readStreet_97 : decode cX11_readStreet 97 = .ok (.getfield 122, 3) := by decide +kernel
theorem dX11_readStreet_100 : decode cX11_readStreet 100 = .ok (.invokevirtual 114, 3) := by decide +kernel
theorem dX11_readStreet_103 : decode cX11_readStreet 103 = .ok (.aload_n 0, 1) := by decide +kernel
theorem dX11_readStreet_104 : decode cX11_readStreet 104 = .ok (.getfield 20, 3) := by decide +kernel
theorem dX11_readStreet_107 : decode cX11_readStreet 107 = .ok (.iload_n 2, 1) := by decide +kernel
theorem dX11_readStreet_108 : decode cX11_readStreet 108 = .ok (.iconst 2, 1) := by decide +kernel
theorem dX11_readStreet_109 : decode cX11_readStreet 109 = .ok (.iadd, 1) := by decide +kernel
theorem dX11_readStreet_110 : decode cX11_readStreet 110 = .ok (.aload_n 0, 1) := by decide +kernel
theorem dX11_readStreet_111 : decode cX11_readStreet 111 = .ok (.iconst 1, 1) := by decide +kernel
theorem dX11_readStreet_112 : decode cX11_readStreet 112 = .ok (.bipush 99, 2) := by decide +kernel
theorem dX11_readStreet_114 : decode cX11_readStreet 114 = .ok (.invokevirtual 150, 3) := by decide +kernel
theorem dX11_readStreet_117 : decode cX11_readStreet 117 = .ok (.iastore, 1) := by decide +kernel
theorem dX11_readStreet_118 : decode cX11_readStreet 118 = .ok (.aload_n 0, 1) := by decide +kernel
theorem dX11_readStreet_119 : decode cX11_readStreet 119 = .ok (.getfield 20, 3) := by decide +kernel
theorem dX11_readStreet_122 : decode cX11_readStreet 122 = .ok (.iconst 1, 1) := by decide +kernel
theorem dX11_readStreet_123 : decode cX11_readStreet 123 = .ok (.dup2, 1) := by decide +kernel
theorem dX11_readStreet_124 : decode cX11_readStreet 124 = .ok (.iaload, 1) := by decide +kernel
theorem dX11_readStreet_125 : decode cX11_readStreet 125 = .ok (.iconst 1, 1) := by decide +kernel
theorem dX11_readStreet_126 : decode cX11_readStreet 126 = .ok (.iadd, 1) := by decide +kernel
theorem dX11_readStreet_127 : decode cX11_readStreet 127 = .ok (.iastore, 1) := by decide +kernel
theorem dX11_readStreet_128 : decode cX11_readStreet 128 = .ok (.return_, 1) := by decide +kernel
theorem dX11_readHouse_0 : decode cX11_readHouse 0 = .ok (.aload_n 0, 1) := by decide +kernel
theorem dX11_readHouse_1 : decode cX11_readHouse 1 = .ok (.getfield 20, 3) := by decide +kernel
theorem dX11_readHouse_4 : decode cX11_readHouse 4 = .ok (.iconst 2, 1) := by decide +kernel
theorem dX11_readHouse_5 : decode cX11_readHouse 5 = .ok (.iaload, 1) := by decide +kernel
theorem dX11_readHouse_6 : decode cX11_readHouse 6 = .ok (.bipush 16, 2) := by decide +kernel
theorem dX11_readHouse_8 : decode cX11_readHouse 8 = .ok (.if_icmp .ne 10, 3) := by decide +kernel
theorem dX11_readHouse_11 : decode cX11_readHouse 11 = .ok (.aload_n 0, 1) := by decide +kernel
theorem dX11_readHouse_12 : decode cX11_readHouse 12 = .ok (.bipush (-4), 2) := by decide +kernel
theorem dX11_readHouse_14 : decode cX11_readHouse 14 = .ok (.iload_n 1, 1) := by decide +kernel
theorem dX11_readHouse_15 : decode cX11_readHouse 15 = .ok (.invokevirtual 114, 3) := by decide +kernel
theorem dX11_readHouse_18 : decode cX11_readHouse 18 = .ok (.aload_n 0, 1) := by decide +kernel
theorem dX11_readHouse_19 : decode cX11_readHouse 19 = .ok (.invokevirtual 97, 3) := by decide +kernel
theorem dX11_readHouse_22 : decode cX11_readHouse 22 = .ok (.ifCond .ne 4, 3) := by decide +kernel
theorem dX11_readHouse_25 : decode cX11_readHouse 25 = .ok (.return_, 1) := by decide +kernel
theorem dX11_readHouse_26 : decode cX11_readHouse 26 = .ok (.aload_n 0, 1) := by decide +kernel
theorem dX11_readHouse_27 : decode cX11_readHouse 27 = .ok (.getfield 20, 3) := by decide +kernel
theorem dX11_readHouse_30 : decode cX11_readHouse 30 = .ok (.iconst 2, 1) := by decide +kernel
theorem dX11_readHouse_31 : decode cX11_readHouse 31 = .ok (.iaload, 1) := by decide +kernel
theorem dX11_readHouse_32 : decode cX11_readHouse 32 = .ok (.invokestatic 165, 3) := by decide +kernel
theorem dX11_readHouse_35 : decode cX11_readHouse 35 = .ok (.istore_n 2, 1) := by decide +kernel
theorem dX11_readHouse_36 : decode cX11_readHouse 36 = .ok (.aload_n 0, 1) := by decide +kernel
theorem dX11_readHouse_37 : decode cX11_readHouse 37 = .ok (.iconst 0, 1) := by decide +kernel
theorem dX11_readHouse_38 : decode cX11_readHouse 38 = .ok (.aload_n 0, 1) := by decide +kernel
theorem dX11_readHouse_39 : decode cX11_readHouse 39 = .ok (.getfield 20, 3) := by decide +kernel
theorem dX11_readHouse_42 : decode cX11_readHouse 42 = .ok (.iconst 1, 1) := by decide +kernel
theorem dX11_readHouse_43 : decode cX11_readHouse 43 = .ok (.iaload, 1) := by decide +kernel
theorem dX11_readHouse_44 : decode cX11_readHouse 44 = .ok (.iconst 1, 1) := by decide +kernel
theorem dX11_readHouse_45 : decode cX11_readHouse 45 = .ok (.isub, 1) := by decide +kernel
theorem dX11_readHouse_46 : decode cX11_readHouse 46 = .ok (.invokevirtual 150, 3) := by decide +kernel
theorem dX11_readHouse_49 : decode cX11_readHouse 49 = .ok (.istore_n 3, 1) := by decide +kernel
theorem dX11_readHouse_50 : decode cX11_readHouse 50 = .ok (.aload_n 0, 1) := by decide +kernel
theorem dX11_readHouse_51 : decode cX11_readHouse 51 = .ok (.invokevirtual 97, 3) := by decide +kernel
theorem dX11_readHouse_54 : decode cX11_readHouse 54 = .ok (.ifCond .ne 4, 3) := by decide +kernel
theorem dX11_readHouse_57 : decode cX11_readHouse 57 = .ok (.return_, 1) := by decide +kernel
theorem dX11_readHouse_58 : decode cX11_readHouse 58 = .ok (.aload_n 0, 1) := by decide +kernel
theorem dX11_readHouse_59 : decode cX11_readHouse 59 = .ok (.getfield 20, 3) := by decide +kernel
theorem dX11_readHouse_62 : decode cX11_readHouse 62 = .ok (.iload_n 2, 1) := by decide +kernel
theorem dX11_readHouse_63 : decode cX11_readHouse 63 = .ok (.iload_n 3, 1) := by decide +kernel
theorem dX11_readHouse_64 : decode cX11_readHouse 64 = .ok (.iastore, 1) := by decide +kernel
theorem dX11_readHouse_65 : decode cX11_readHouse 65 = .ok (.aload_n 0, 1) := by decide +kernel
theorem dX11_readHouse_66 : decode cX11_readHouse 66 = .ok (.getfield 20, 3) := by decide +kernel
theorem dX11_readHouse_69 : decode cX11_readHouse 69 = .ok (.iload_n 2, 1) := by decide +kernel
theorem dX11_readHouse_70 : decode cX11_readHouse 70 = .ok (.iconst 1, 1) := by decide +kernel
theorem dX11_readHouse_71 : decode cX11_readHouse 71 = .ok (.iadd, 1) := by decide +kernel
theorem dX11_readHouse_72 : decode cX11_readHouse 72 = .ok (.aload_n 0, 1) := by decide +kernel
theorem dX11_readHouse_73 : decode cX11_readHouse 73 = .ok (.iconst 0, 1) := by decide +kernel
theorem dX11_readHouse_74 : decode cX11_readHouse 74 = .ok (.aload_n 0, 1) := by decide +kernel
theorem dX11_readHouse_75 : decode cX11_readHouse 75 = .ok (.getfield 20, 3) := by decide +kernel
theorem dX11_readHouse_78 : decode cX11_readHouse 78 = .ok (.iload_n 3, 1) := by decide +kernel
theorem dX11_readHouse_79 : decode cX11_readHouse 79 = .ok (.invokestatic 162, 3) := by decide +kernel
theorem dX11_readHouse_82 : decode cX11_readHouse 82 = .ok (.iconst 2, 1) := by decide +kernel
theorem dX11_readHouse_83 : decode cX11_readHouse 83 = .ok (.iadd, 1) := by decide +kernel
theorem dX11_readHouse_84 : decode cX11_readHouse 84 = .ok (.iaload, 1) := by decide +kernel
theorem dX11_readHouse_85 : decode cX11_readHouse 85 = .ok (.invokevirtual 150, 3) := by decide +kernel
theorem dX11_readHouse_88 : decode cX11_readHouse 88 = .ok (.iastore, 1) := by decide +kernel
theorem dX11_readHouse_89 : decode cX11_readHouse 89 = .ok (.aload_n 0, 1) := by decide +kernel
theorem dX11_readHouse_90 : decode cX11_readHouse 90 = .ok (.getfield 20, 3) := by decide +kernel
theorem dX11_readHouse_93 : decode cX11_readHouse 93 = .ok (.iload_n 2, 1) := by decide +kernel
theorem dX11_readHouse_94 : decode cX11_readHouse 94 = .ok (.iconst 2, 1) := by decide +kernel
theorem dX11_readHouse_95 : decode cX11_readHouse 95 = .ok (.iadd, 1) := by decide +kernel
theorem dX11_readHouse_96 : decode cX11_readHouse 96 = .ok (.aload_n 0, 1) := by decide +kernel
theorem dX11_readHouse_97 : decode cX11_readHouse 97 = .ok (.iconst 0, 1) := by decide +kernel
theorem dX11_readHouse_98 : decode cX11_readHouse 98 = .ok (.iconst 1, 1) := by decide +kernel
theorem dX11_readHouse_99 : decode cX11_readHouse 99 = .ok (.invokevirtual 150, 3) := by decide +kernel
theorem dX11_readHouse_102 : decode cX11_readHouse 102 = .ok (.iastore, 1) := by decide +kernel
theorem dX11_readHouse_103 : decode cX11_readHouse 103 = .ok (.aload_n 0, 1) := by decide +kernel
theorem dX11_readHouse_104 : decode cX11_readHouse 104 = .ok (.getfield 20, 3) := by decide +kernel
theorem dX11_readHouse_107 : decode cX11_readHouse 107 = .ok (.iload_n 2, 1) := by decide +kernel
theorem dX11_readHouse_108 : decode cX11_readHouse 108 = .ok (.iconst 3, 1) := by decide +kernel
theorem dX11_readHouse_109 : decode cX11_readHouse 109 = .ok (.iadd, 1) := by decide +kernel
theorem dX11_readHouse_110 : decode cX11_readHouse 110 = .ok (.aload_n 0, 1) := by decide +kernel
theorem dX11_readHouse_111 : decode cX11_readHouse 111 = .ok (.iconst 0, 1) := by decide +kernel
theorem dX11_readHouse_112 : decode cX11_readHouse 112 = .ok (.bipush 20, 2) := by decide +kernel
theorem dX11_readHouse_114 : decode cX11_readHouse 114 = .ok (.invokevirtual 150, 3) := by decide +kernel
theorem dX11_readHouse_117 : decode cX11_readHouse 117 = .ok (.iastore, 1) := by decide +kernel
theorem dX11_readHouse_118 : decode cX11_readHouse 118 = .ok (.aload_n 0, 1) := by decide +kernel
theorem dX11_readHouse_119 : decode cX11_readHouse 119 = .ok (.getfield 20, 3) := by decide +kernel
theorem dX11_readHouse_122 : decode cX11_readHouse 122 = .ok (.iload_n 2, 1) := by decide +kernel
theorem dX11_readHouse_123 : decode cX11_readHouse 123 = .ok (.iconst 4, 1) := by decide +kernel
theorem dX11_readHouse_124 : decode cX11_readHouse 124 = .ok (.iadd, 1) := by decide +kernel
theorem dX11_readHouse_125 : decode cX11_readHouse 125 = .ok (.aload_n 0, 1) := by decide +kernel
theorem dX11_readHouse_126 : decode cX11_readHouse 126 = .ok (.iconst 0, 1) := by decide +kernel
theorem dX11_readHouse_127 : decode cX11_readHouse 127 = .ok (.sipush 1439, 3) := by decide +kernel
theorem dX11_readHouse_130 : decode cX11_readHouse 130 = .ok (.invokevirtual 150, 3) := by decide +kernel
theorem dX11_readHouse_133 : decode cX11_readHouse 133 = .ok (.iastore, 1) := by decide +kernel
theorem dX11_readHouse_134 : decode cX11_readHouse 134 = .ok (.aload_n 0, 1) := by decide +kernel
theorem dX11_readHouse_135 : decode cX11_readHouse 135 = .ok (.getfield 20, 3) := by decide +kernel
theorem dX11_readHouse_138 : decode cX11_readHouse 138 = .ok (.iload_n 2, 1) := by decide +kernel
theorem dX11_readHouse_139 : decode cX11_readHouse 139 = .ok (.iconst 5, 1) := by decide +kernel
theorem dX11_readHouse_140 : decode cX11_readHouse 140 = .ok (.iadd, 1) := by decide +kernel
theorem dX11_readHouse_141 : decode cX11_readHouse 141 = .ok (.aload_n 0, 1) := by decide +kernel
theorem dX11_readHouse_142 : decode cX11_readHouse 142 = .ok (.aload_n 0, 1) := by decide +kernel
theorem dX11_readHouse_143 : decode cX11_readHouse 143 = .ok (.getfield 20, 3) := by decide +kernel
theorem dX11_readHouse_146 : decode cX11_readHouse 146 = .ok (.iload_n 2, 1) := by decide +kernel
theorem dX11_readHouse_147 : decode cX11_readHouse 147 = .ok (.iconst 4, 1) := by decide +kernel
theorem dX11_readHouse_148 : decode cX11_readHouse 148 = .ok (.iadd, 1) := by decide +kernel
theorem dX11_readHouse_149 : decode cX11_readHouse 149 = .ok (.iaload, 1) := by decide +kernel
theorem dX11_readHouse_150 : decode cX11_readHouse 150 = .ok (.iconst 1, 1) := by decide +kernel
theorem dX11_readHouse_151 : decode cX11_readHouse 151 = .ok (.iadd, 1) := by decide +kernel
theorem dX11_readHouse_152 : decode cX11_readHouse 152 = .ok (.sipush 1440, 3) := by decide +kernel
theorem dX11_readHouse_155 : decode cX11_readHouse 155 = .ok (.invokevirtual 150, 3) := by decide +kernel
theorem dX11_readHouse_158 : decode cX11_readHouse 158 = .ok (.iastore, 1) := by decide +kernel
theorem dX11_readHouse_159 : decode cX11_readHouse 159 = .ok (.aload_n 0, 1) := by decide +kernel
theorem dX11_readHouse_160 : decode cX11_readHouse 160 = .ok (.getfield 20, 3) := by decide +kernel
theorem dX11_readHouse_163 : decode cX11_readHouse 163 = .ok (.iload_n 2, 1) := by decide +kernel
theorem dX11_readHouse_164 : decode cX11_readHouse 164 = .ok (.bipush 6, 2) := by decide +kernel
theorem dX11_readHouse_166 : decode cX11_readHouse 166 = .ok (.iadd, 1) := by decide +kernel
theorem dX11_readHouse_167 : decode cX11_readHouse 167 = .ok (.aload_n 0, 1) := by decide +kernel
theorem dX11_readHouse_168 : decode cX11_readHouse 168 = .ok (.ldc 146, 2) := by decide +kernel
theorem dX11_readHouse_170 : decode cX11_readHouse 170 = .ok (.invokevirtual 142, 3) := by decide +kernel
theorem dX11_readHouse_173 : decode cX11_readHouse 173 = .ok (.ifCond .eq 7, 3) := by decide +kernel
theorem dX11_readHouse_176 : decode cX11_readHouse 176 = .ok (.iconst 1, 1) := by decide +kernel
theorem dX11_readHouse_177 : decode cX11_readHouse 177 = .ok (.goto 4, 3) := by decide +kernel
theorem dX11_readHouse_180 : decode cX11_readHouse 180 = .ok (.iconst 0, 1) := by decide +kernel
theorem dX11_readHouse_181 : decode cX11_readHouse 181 = .ok (.iastore, 1) := by decide +kernel
theorem dX11_readHouse_182 : decode cX11_readHouse 182 = .ok (.aload_n 0, 1) := by decide +kernel
theorem dX11_readHouse_183 : decode cX11_readHouse 183 = .ok (.getfield 20, 3) := by decide +kernel
theorem dX11_readHouse_186 : decode cX11_readHouse 186 = .ok (.iconst 2, 1) := by decide +kernel
theorem dX11_readHouse_187 : decode cX11_readHouse 187 = .ok (.dup2, 1) := by decide +kernel
theorem dX11_readHouse_188 : decode cX11_readHouse 188 = .ok (.iaload, 1) := by decide +kernel
theorem dX11_readHouse_189 : decode cX11_readHouse 189 = .ok (.iconst 1, 1) := by decide +kernel
theorem dX11_readHouse_190 : decode cX11_readHouse 190 = .ok (.iadd, 1) := by decide +kernel
theorem dX11_readHouse_191 : decode cX11_readHouse 191 = .ok (.iastore, 1) := by decide +kernel
theorem dX11_readHouse_192 : decode cX11_readHouse 192 = .ok (.return_, 1) := by decide +kernel
theorem dX11_readWalker_0 : decode cX11_readWalker 0 = .ok (.aload_n 0, 1) := by decide +kernel
theorem dX11_readWalker_1 : decode cX11_readWalker 1 = .ok (.getfield 20, 3) := by decide +kernel
theorem dX11_readWalker_4 : decode cX11_readWalker 4 = .ok (.iconst 3, 1) := by decide +kernel
theorem dX11_readWalker_5 : decode cX11_readWalker 5 = .ok (.iaload, 1) := by decide +kernel
theorem dX11_readWalker_6 : decode cX11_readWalker 6 = .ok (.iconst 3, 1) := by decide +kernel
theorem dX11_readWalker_7 : decode cX11_readWalker 7 = .ok (.if_icmp .ne 10, 3) := by decide +kernel
theorem dX11_readWalker_10 : decode cX11_readWalker 10 = .ok (.aload_n 0, 1) := by decide +kernel
theorem dX11_readWalker_11 : decode cX11_readWalker 11 = .ok (.bipush (-4), 2) := by decide +kernel
theorem dX11_readWalker_13 : decode cX11_readWalker 13 = .ok (.iload_n 1, 1) := by decide +kernel
theorem dX11_readWalker_14 : decode cX11_readWalker 14 = .ok (.invokevirtual 114, 3) := by decide +kernel
theorem dX11_readWalker_17 : decode cX11_readWalker 17 = .ok (.aload_n 0, 1) := by decide +kernel
theorem dX11_readWalker_18 : decode cX11_readWalker 18 = .ok (.invokevirtual 97, 3) := by decide +kernel
theorem dX11_readWalker_21 : decode cX11_readWalker 21 = .ok (.ifCond .ne 4, 3) := by decide +kernel
theorem dX11_readWalker_24 : decode cX11_readWalker 24 = .ok (.return_, 1) := by decide +kernel
theorem dX11_readWalker_25 : decode cX11_readWalker 25 = .ok (.aload_n 0, 1) := by decide +kernel
theorem dX11_readWalker_26 : decode cX11_readWalker 26 = .ok (.getfield 20, 3) := by decide +kernel
theorem dX11_readWalker_29 : decode cX11_readWalker 29 = .ok (.iconst 3, 1) := by decide +kernel
theorem dX11_readWalker_30 : decode cX11_readWalker 30 = .ok (.iaload, 1) := by decide +kernel
theorem dX11_readWalker_31 : decode cX11_readWalker 31 = .ok (.invokestatic 168, 3) := by decide +kernel
theorem dX11_readWalker_34 : decode cX11_readWalker 34 = .ok (.istore_n 2, 1) := by decide +kernel
theorem dX11_readWalker_35 : decode cX11_readWalker 35 = .ok (.aload_n 0, 1) := by decide +kernel
theorem dX11_readWalker_36 : decode cX11_readWalker 36 = .ok (.getfield 20, 3) := by decide +kernel
theorem dX11_readWalker_39 : decode cX11_readWalker 39 = .ok (.iload_n 2, 1) := by decide +kernel
theorem dX11_readWalker_40 : decode cX11_readWalker 40 = .ok (.aload_n 0, 1) := by decide +kernel
theorem dX11_readWalker_41 : decode cX11_readWalker 41 = .ok (.iconst 0, 1) := by decide +kernel
theorem dX11_readWalker_42 : decode cX11_readWalker 42 = .ok (.aload_n 0, 1) := by decide +kernel
theorem dX11_readWalker_43 : decode cX11_readWalker 43 = .ok (.getfield 20, 3) := by decide +kernel
theorem dX11_readWalker_46 : decode cX11_readWalker 46 = .ok (.iconst 0, 1) := by decide +kernel
theorem dX11_readWalker_47 : decode cX11_readWalker 47 = .ok (.iaload, 1) := by decide +kernel
theorem dX11_readWalker_48 : decode cX11_readWalker 48 = .ok (.iconst 1, 1) := by decide +kernel
theorem dX11_readWalker_49 : decode cX11_readWalker 49 = .ok (.isub, 1) := by decide +kernel
theorem dX11_readWalker_50 : decode cX11_readWalker 50 = .ok (.invokevirtual 150, 3) := by decide +kernel
theorem dX11_readWalker_53 : decode cX11_readWalker 53 = .ok (.iastore, 1) := by decide +kernel
theorem dX11_readWalker_54 : decode cX11_readWalker 54 = .ok (.aload_n 0, 1) := by decide +kernel
theorem dX11_readWalker_55 : decode cX11_readWalker 55 = .ok (.getfield 20, 3) := by decide +kernel
theorem dX11_readWalker_58 : decode cX11_readWalker 58 = .ok (.iload_n 2, 1) := by decide +kernel
theorem dX11_readWalker_59 : decode cX11_readWalker 59 = .ok (.iconst 1, 1) := by decide +kernel
theorem dX11_readWalker_60 : decode cX11_readWalker 60 = .ok (.iadd, 1) := by decide +kernel
theorem dX11_readWalker_61 : decode cX11_readWalker 61 = .ok (.aload_n 0, 1) := by decide +kernel
theorem dX11_readWalker_62 : decode cX11_readWalker 62 = .ok (.iconst 0, 1) := by decide +kernel
theorem dX11_readWalker_63 : decode cX11_readWalker 63 = .ok (.sipush 1440, 3) := by decide +kernel
theorem dX11_readWalker_66 : decode cX11_readWalker 66 = .ok (.invokevirtual 150, 3) := by decide +kernel
theorem dX11_readWalker_69 : decode cX11_readWalker 69 = .ok (.iastore, 1) := by decide +kernel
theorem dX11_readWalker_70 : decode cX11_readWalker 70 = .ok (.aload_n 0, 1) := by decide +kernel
theorem dX11_readWalker_71 : decode cX11_readWalker 71 = .ok (.getfield 20, 3) := by decide +kernel
theorem dX11_readWalker_74 : decode cX11_readWalker 74 = .ok (.iconst 3, 1) := by decide +kernel
theorem dX11_readWalker_75 : decode cX11_readWalker 75 = .ok (.dup2, 1) := by decide +kernel
theorem dX11_readWalker_76 : decode cX11_readWalker 76 = .ok (.iaload, 1) := by decide +kernel
theorem dX11_readWalker_77 : decode cX11_readWalker 77 = .ok (.iconst 1, 1) := by decide +kernel
theorem dX11_readWalker_78 : decode cX11_readWalker 78 = .ok (.iadd, 1) := by decide +kernel
theorem dX11_readWalker_79 : decode cX11_readWalker 79 = .ok (.iastore, 1) := by decide +kernel
theorem dX11_readWalker_80 : decode cX11_readWalker 80 = .ok (.return_, 1) := by decide +kernel
theorem dX11_once_0 : decode cX11_once 0 = .ok (.aload_n 0, 1) := by decide +kernel
theorem dX11_once_1 : decode cX11_once 1 = .ok (.getfield 171, 3) := by decide +kernel
theorem dX11_once_4 : decode cX11_once 4 = .ok (.iload_n 1, 1) := by decide +kernel
theorem dX11_once_5 : decode cX11_once 5 = .ok (.ishr, 1) := by decide +kernel
theorem dX11_once_6 : decode cX11_once 6 = .ok (.iconst 1, 1) := by decide +kernel
theorem dX11_once_7 : decode cX11_once 7 = .ok (.iand, 1) := by decide +kernel
theorem dX11_once_8 : decode cX11_once 8 = .ok (.iconst 1, 1) := by decide +kernel
theorem dX11_once_9 : decode cX11_once 9 = .ok (.if_icmp .ne 10, 3) := by decide +kernel
theorem dX11_once_12 : decode cX11_once 12 = .ok (.aload_n 0, 1) := by decide +kernel
theorem dX11_once_13 : decode cX11_once 13 = .ok (.bipush (-2), 2) := by decide +kernel
theorem dX11_once_15 : decode cX11_once 15 = .ok (.iload_n 2, 1) := by decide +kernel
theorem dX11_once_16 : decode cX11_once 16 = .ok (.invokevirtual 114, 3) := by decide +kernel
theorem dX11_once_19 : decode cX11_once 19 = .ok (.aload_n 0, 1) := by decide +kernel
theorem dX11_once_20 : decode cX11_once 20 = .ok (.dup, 1) := by decide +kernel
theorem dX11_once_21 : decode cX11_once 21 = .ok (.getfield 171, 3) := by decide +kernel
theorem dX11_once_24 : decode cX11_once 24 = .ok (.iconst 1, 1) := by decide +kernel
theorem dX11_once_25 : decode cX11_once 25 = .ok (.iload_n 1, 1) := by decide +kernel
theorem dX11_once_26 : decode cX11_once 26 = .ok (.ishl, 1) := by decide +kernel
theorem dX11_once_27 : decode cX11_once 27 = .ok (.ior, 1) := by decide +kernel
theorem dX11_once_28 : decode cX11_once 28 = .ok (.putfield 171, 3) := by decide +kernel
theorem dX11_once_31 : decode cX11_once 31 = .ok (.return_, 1) := by decide +kernel
theorem dX11_statement_0 : decode cX11_statement 0 = .ok (.aload_n 0, 1) := by decide +kernel
theorem dX11_statement_1 : decode cX11_statement 1 = .ok (.invokevirtual 101, 3) := by decide +kernel
theorem dX11_statement_4 : decode cX11_statement 4 = .ok (.pop, 1) := by decide +kernel
theorem dX11_statement_5 : decode cX11_statement 5 = .ok (.aload_n 0, 1) := by decide +kernel
theorem dX11_statement_6 : decode cX11_statement 6 = .ok (.getfield 80, 3) := by decide +kernel
theorem dX11_statement_9 : decode cX11_statement 9 = .ok (.istore_n 1, 1) := by decide +kernel
theorem dX11_statement_10 : decode cX11_statement 10 = .ok (.aload_n 0, 1) := by decide +kernel
theorem dX11_statement_11 : decode cX11_statement 11 = .ok (.ldc 174, 2) := by decide +kernel
theorem dX11_statement_13 : decode cX11_statement 13 = .ok (.invokevirtual 142, 3) := by decide +kernel
theorem dX11_statement_16 : decode cX11_statement 16 = .ok (.ifCond .eq 11, 3) := by decide +kernel
theorem dX11_statement_19 : decode cX11_statement 19 = .ok (.aload_n 0, 1) := by decide +kernel
theorem dX11_statement_20 : decode cX11_statement 20 = .ok (.iload_n 1, 1) := by decide +kernel
theorem dX11_statement_21 : decode cX11_statement 21 = .ok (.invokevirtual 175, 3) := by decide +kernel
theorem dX11_statement_24 : decode cX11_statement 24 = .ok (.goto 137, 3) := by decide +kernel
theorem dX11_statement_27 : decode cX11_statement 27 = .ok (.aload_n 0, 1) := by decide +kernel
theorem dX11_statement_28 : decode cX11_statement 28 = .ok (.ldc 178, 2) := by decide +kernel
theorem dX11_statement_30 : decode cX11_statement 30 = .ok (.invokevirtual 142, 3) := by decide +kernel
theorem dX11_statement_33 : decode cX11_statement 33 = .ok (.ifCond .eq 11, 3) := by decide +kernel
theorem dX11_statement_36 : decode cX11_statement 36 = .ok (.aload_n 0, 1) := by decide +kernel
theorem dX11_statement_37 : decode cX11_statement 37 = .ok (.iload_n 1, 1) := by decide +kernel
theorem dX11_statement_38 : decode cX11_statement 38 = .ok (.invokevirtual 179, 3) := by decide +kernel
theorem dX11_statement_41 : decode cX11_statement 41 = .ok (.goto 120, 3) := by decide +kernel
theorem dX11_statement_44 : decode cX11_statement 44 = .ok (.aload_n 0, 1) := by decide +kernel
theorem dX11_statement_45 : decode cX11_statement 45 = .ok (.ldc 182, 2) := by decide +kernel
theorem dX11_statement_47 : decode cX11_statement 47 = .ok (.invokevirtual 142, 3) := by decide +kernel
theorem dX11_statement_50 : decode cX11_statement 50 = .ok (.ifCond .eq 11, 3) := by decide +kernel
theorem dX11_statement_53 : decode cX11_statement 53 = .ok (.aload_n 0, 1) := by decide +kernel
theorem dX11_statement_54 : decode cX11_statement 54 = .ok (.iload_n 1, 1) := by decide +kernel
theorem dX11_statement_55 : decode cX11_statement 55 = .ok (.invokevirtual 183, 3) := by decide +kernel
theorem dX11_statement_58 : decode cX11_statement 58 = .ok (.goto 103, 3) := by decide +kernel
theorem dX11_statement_61 : decode cX11_statement 61 = .ok (.aload_n 0, 1) := by decide +kernel
theorem dX11_statement_62 : decode cX11_statement 62 = .ok (.ldc 186, 2) := by decide +kernel
theorem dX11_statement_64 : decode cX11_statement 64 = .ok (.invokevirtual 142, 3) := by decide +kernel
theorem dX11_statement_67 : decode cX11_statement 67 = .ok (.ifCond .eq 25, 3) := by decide +kernel
theorem dX11_statement_70 : decode cX11_statement 70 = .ok (.aload_n 0, 1) := by decide +kernel
theorem dX11_statement_71 : decode cX11_statement 71 = .ok (.iconst 0, 1) := by decide +kernel
theorem dX11_statement_72 : decode cX11_statement 72 = .ok (.iload_n 1, 1) := by decide +kernel
theorem dX11_statement_73 : decode cX11_statement 73 = .ok (.invokevirtual 188, 3) := by decide +kernel
theorem dX11_statement_76 : decode cX11_statement 76 = .ok (.aload_n 0, 1) := by decide +kernel
theorem dX11_statement_77 : decode cX11_statement 77 = .ok (.getfield 20, 3) := by decide +kernel
theorem dX11_statement_80 : decode cX11_statement 80 = .ok (.iconst 4, 1) := by decide +kernel
theorem dX11_statement_81 : decode cX11_statement 81 = .ok (.aload_n 0, 1) := by decide +kernel
theorem dX11_statement_82 : decode cX11_statement 82 = .ok (.iconst 0, 1) := by decide +kernel
theorem dX11_statement_83 : decode cX11_statement 83 = .ok (.bipush 9, 2) := by decide +kernel
theorem dX11_statement_85 : decode cX11_statement 85 = .ok (.invokevirtual 150, 3) := by decide +kernel
theorem dX11_statement_88 : decode cX11_statement 88 = .ok (.iastore, 1) := by decide +kernel
theorem dX11_statement_89 : decode cX11_statement 89 = .ok (.goto 72, 3) := by decide +kernel
theorem dX11_statement_92 : decode cX11_statement 92 = .ok (.aload_n 0, 1) := by decide +kernel
theorem dX11_statement_93 : decode cX11_statement 93 = .ok (.ldc 191, 2) := by decide +kernel
theorem dX11_statement_95 : decode cX11_statement 95 = .ok (.invokevirtual 142, 3) := by decide +kernel
theorem dX11_statement_98 : decode cX11_statement 98 = .ok (.ifCond .eq 26, 3) := by decide +kernel
theorem dX11_statement_101 : decode cX11_statement 101 = .ok (.aload_n 0, 1) := by decide +kernel
theorem dX11_statement_102 : decode cX11_statement 102 = .ok (.iconst 1, 1) := by decide +kernel
theorem dX11_statement_103 : decode cX11_statement 103 = .ok (.iload_n 1, 1) := by decide +kernel
theorem dX11_statement_104 : decode cX11_statement 104 = .ok (.invokevirtual 188, 3) := by decide +kernel
theorem dX11_statement_107 : decode cX11_statement 107 = .ok (.aload_n 0, 1) := by decide +kernel
theorem dX11_statement_108 : decode cX11_statement 108 = .ok (.getfield 20, 3) := by decide +kernel
theorem dX11_statement_111 : decode cX11_statement 111 = .ok (.iconst 5, 1) := by decide +kernel
theorem dX11_statement_112 : decode cX11_statement 112 = .ok (.aload_n 0, 1) := by decide +kernel
theorem dX11_statement_113 : decode cX11_statement 113 = .ok (.iconst 0, 1) := by decide +kernel
theorem dX11_statement_114 : decode cX11_statement 114 = .ok (.sipush 600, 3) := by decide +kernel
theorem dX11_statement_117 : decode cX11_statement 117 = .ok (.invokevirtual 150, 3) := by decide +kernel
theorem dX11_statement_120 : decode cX11_statement 120 = .ok (.iastore, 1) := by decide +kernel
theorem dX11_statement_121 : decode cX11_statement 121 = .ok (.goto 40, 3) := by decide +kernel
theorem dX11_statement_124 : decode cX11_statement 124 = .ok (.aload_n 0, 1) := by decide +kernel
theorem dX11_statement_125 : decode cX11_statement 125 = .ok (.ldc 193, 2) := by decide +kernel
theorem dX11_statement_127 : decode cX11_statement 127 = .ok (.invokevirtual 142, 3) := by decide +kernel
theorem dX11_statement_130 : decode cX11_statement 130 = .ok (.ifCond .eq 24, 3) := by decide +kernel
theorem dX11_statement_133 : decode cX11_statement 133 = .ok (.aload_n 0, 1) := by decide +kernel
theorem dX11_statement_134 : decode cX11_statement 134 = .ok (.iconst 2, 1) := by decide +kernel
theorem dX11_statement_135 : decode cX11_statement 135 = .ok (.iload_n 1, 1) := by decide +kernel
theorem dX11_statement_136 : decode cX11_statement 136 = .ok (.invokevirtual 188, 3) := by decide +kernel
theorem dX11_statement_139 : decode cX11_statement 139 = .ok (.aload_n 0, 1) := by decide +kernel
theorem dX11_statement_140 : decode cX11_statement 140 = .ok (.getfield 20, 3) := by decide +kernel
theorem dX11_statement_143 : decode cX11_statement 143 = .ok (.bipush 6, 2) := by decide +kernel
theorem dX11_statement_145 : decode cX11_statement 145 = .ok (.iconst 1, 1) := by decide +kernel
theorem dX11_statement_146 : decode cX11_statement 146 = .ok (.iastore, 1) := by decide +kernel
theorem dX11_statement_147 : decode cX11_statement 147 = .ok (.aload_n 0, 1) := by decide +kernel
theorem dX11_statement_148 : decode cX11_statement 148 = .ok (.invokevirtual 133, 3) := by decide +kernel
theorem dX11_statement_151 : decode cX11_statement 151 = .ok (.goto 10, 3) := by decide +kernel
theorem dX11_statement_154 : decode cX11_statement 154 = .ok (.aload_n 0, 1) := by decide +kernel
theorem dX11_statement_155 : decode cX11_statement 155 = .ok (.bipush (-2), 2) := by decide +kernel
theorem dX11_statement_157 : decode cX11_statement 157 = .ok (.iload_n 1, 1) := by decide +kernel
theorem dX11_statement_158 : decode cX11_statement 158 = .ok (.invokevirtual 114, 3) := by decide +kernel
theorem dX11_statement_161 : decode cX11_statement 161 = .ok (.aload_n 0, 1) := by decide +kernel
theorem dX11_statement_162 : decode cX11_statement 162 = .ok (.bipush 59, 2) := by decide +kernel
theorem dX11_statement_164 : decode cX11_statement 164 = .ok (.invokevirtual 136, 3) := by decide +kernel
theorem dX11_statement_167 : decode cX11_statement 167 = .ok (.return_, 1) := by decide +kernel
theorem dX11_load_0 : decode cX11_load 0 = .ok (.aload_n 0, 1) := by decide +kernel
theorem dX11_load_1 : decode cX11_load 1 = .ok (.iconst 0, 1) := by decide +kernel
theorem dX11_load_2 : decode cX11_load 2 = .ok (.putfield 71, 3) := by decide +kernel
theorem dX11_load_5 : decode cX11_load 5 = .ok (.aload_n 0, 1) := by decide +kernel
theorem dX11_load_6 : decode cX11_load 6 = .ok (.iload_n 1, 1) := by decide +kernel
theorem dX11_load_7 : decode cX11_load 7 = .ok (.iconst 0, 1) := by decide +kernel
theorem dX11_load_8 : decode cX11_load 8 = .ok (.aload_n 0, 1) := by decide +kernel
theorem dX11_load_9 : decode cX11_load 9 = .ok (.getfield 74, 3) := by decide +kernel
theorem dX11_load_12 : decode cX11_load 12 = .ok (.invokestatic 93, 3) := by decide +kernel
theorem dX11_load_15 : decode cX11_load 15 = .ok (.ifCond .ne 7, 3) := by decide +kernel
theorem dX11_load_18 : decode cX11_load 18 = .ok (.iconst 1, 1) := by decide +kernel
theorem dX11_load_19 : decode cX11_load 19 = .ok (.goto 4, 3) := by decide +kernel
theorem dX11_load_22 : decode cX11_load 22 = .ok (.iconst 0, 1) := by decide +kernel
theorem dX11_load_23 : decode cX11_load 23 = .ok (.iconst 1, 1) := by decide +kernel
theorem dX11_load_24 : decode cX11_load 24 = .ok (.invokevirtual 195, 3) := by decide +kernel
theorem dX11_load_27 : decode cX11_load 27 = .ok (.ifCond .eq 5, 3) := by decide +kernel
theorem dX11_load_30 : decode cX11_load 30 = .ok (.iconst 0, 1) := by decide +kernel
theorem dX11_load_31 : decode cX11_load 31 = .ok (.ireturn, 1) := by decide +kernel
theorem dX11_load_32 : decode cX11_load 32 = .ok (.aload_n 0, 1) := by decide +kernel
theorem dX11_load_33 : decode cX11_load 33 = .ok (.iconst 0, 1) := by decide +kernel
theorem dX11_load_34 : decode cX11_load 34 = .ok (.putfield 74, 3) := by decide +kernel
theorem dX11_load_37 : decode cX11_load 37 = .ok (.aload_n 0, 1) := by decide +kernel
theorem dX11_load_38 : decode cX11_load 38 = .ok (.iload_n 1, 1) := by decide +kernel
theorem dX11_load_39 : decode cX11_load 39 = .ok (.putfield 77, 3) := by decide +kernel
theorem dX11_load_42 : decode cX11_load 42 = .ok (.aload_n 0, 1) := by decide +kernel
theorem dX11_load_43 : decode cX11_load 43 = .ok (.iconst 0, 1) := by decide +kernel
theorem dX11_load_44 : decode cX11_load 44 = .ok (.putfield 80, 3) := by decide +kernel
theorem dX11_load_47 : decode cX11_load 47 = .ok (.aload_n 0, 1) := by decide +kernel
theorem dX11_load_48 : decode cX11_load 48 = .ok (.iconst 0, 1) := by decide +kernel
theorem dX11_load_49 : decode cX11_load 49 = .ok (.putfield 87, 3) := by decide +kernel
theorem dX11_load_52 : decode cX11_load 52 = .ok (.aload_n 0, 1) := by decide +kernel
theorem dX11_load_53 : decode cX11_load 53 = .ok (.iconst (-1), 1) := by decide +kernel
theorem dX11_load_54 : decode cX11_load 54 = .ok (.putfield 90, 3) := by decide +kernel
theorem dX11_load_57 : decode cX11_load 57 = .ok (.aload_n 0, 1) := by decide +kernel
theorem dX11_load_58 : decode cX11_load 58 = .ok (.iconst 0, 1) := by decide +kernel
theorem dX11_load_59 : decode cX11_load 59 = .ok (.putfield 130, 3) := by decide +kernel
theorem dX11_load_62 : decode cX11_load 62 = .ok (.aload_n 0, 1) := by decide +kernel
theorem dX11_load_63 : decode cX11_load 63 = .ok (.iconst 0, 1) := by decide +kernel
theorem dX11_load_64 : decode cX11_load 64 = .ok (.putfield 171, 3) := by decide +kernel
theorem dX11_load_67 : decode cX11_load 67 = .ok (.iconst 0, 1) := by decide +kernel
theorem dX11_load_68 : decode cX11_load 68 = .ok (.istore_n 2, 1) := by decide +kernel
theorem dX11_load_69 : decode cX11_load 69 = .ok (.iload_n 2, 1) := by decide +kernel
theorem dX11_load_70 : decode cX11_load 70 = .ok (.sipush 1613, 3) := by decide +kernel
theorem dX11_load_73 : decode cX11_load 73 = .ok (.if_icmp .ge 16, 3) := by decide +kernel
theorem dX11_load_76 : decode cX11_load 76 = .ok (.aload_n 0, 1) := by decide +kernel
theorem dX11_load_77 : decode cX11_load 77 = .ok (.getfield 20, 3) := by decide +kernel
theorem dX11_load_80 : decode cX11_load 80 = .ok (.iload_n 2, 1) := by decide +kernel
theorem dX11_load_81 : decode cX11_load 81 = .ok (.iconst 0, 1) := by decide +kernel
theorem dX11_load_82 : decode cX11_load 82 = .ok (.iastore, 1) := by decide +kernel
theorem dX11_load_83 : decode cX11_load 83 = .ok (.iinc 2 1, 3) := by decide +kernel
theorem dX11_load_86 : decode cX11_load 86 = .ok (.goto (-17), 3) := by decide +kernel
theorem dX11_load_89 : decode cX11_load 89 = .ok (.aload_n 0, 1) := by decide +kernel
theorem dX11_load_90 : decode cX11_load 90 = .ok (.getfield 20, 3) := by decide +kernel
theorem dX11_load_93 : decode cX11_load 93 = .ok (.iconst 5, 1) := by decide +kernel
theorem dX11_load_94 : decode cX11_load 94 = .ok (.bipush 60, 2) := by decide +kernel
theorem dX11_load_96 : decode cX11_load 96 = .ok (.iastore, 1) := by decide +kernel
theorem dX11_load_97 : decode cX11_load 97 = .ok (.aload_n 0, 1) := by decide +kernel
theorem dX11_load_98 : decode cX11_load 98 = .ok (.ldc 199, 2) := by decide +kernel
theorem dX11_load_100 : decode cX11_load 100 = .ok (.invokevirtual 142, 3) := by decide +kernel
theorem dX11_load_103 : decode cX11_load 103 = .ok (.ifCond .ne 13, 3) := by decide +kernel
theorem dX11_load_106 : decode cX11_load 106 = .ok (.aload_n 0, 1) := by decide +kernel
theorem dX11_load_107 : decode cX11_load 107 = .ok (.bipush (-2), 2) := by decide +kernel
theorem dX11_load_109 : decode cX11_load 109 = .ok (.aload_n 0, 1) := by decide +kernel
theorem dX11_load_110 : decode cX11_load 110 = .ok (.getfield 80, 3) := by decide +kernel
theorem dX11_load_113 : decode cX11_load 113 = .ok (.invokevirtual 114, 3) := by decide +kernel
theorem dX11_load_116 : decode cX11_load 116 = .ok (.aload_n 0, 1) := by decide +kernel
theorem dX11_load_117 : decode cX11_load 117 = .ok (.getfield 20, 3) := by decide +kernel
theorem dX11_load_120 : decode cX11_load 120 = .ok (.iconst 0, 1) := by decide +kernel
theorem dX11_load_121 : decode cX11_load 121 = .ok (.aload_n 0, 1) := by decide +kernel
theorem dX11_load_122 : decode cX11_load 122 = .ok (.iconst 1, 1) := by decide +kernel
theorem dX11_load_123 : decode cX11_load 123 = .ok (.bipush 10, 2) := by decide +kernel
theorem dX11_load_125 : decode cX11_load 125 = .ok (.invokevirtual 150, 3) := by decide +kernel
theorem dX11_load_128 : decode cX11_load 128 = .ok (.iastore, 1) := by decide +kernel
theorem dX11_load_129 : decode cX11_load 129 = .ok (.aload_n 0, 1) := by decide +kernel
theorem dX11_load_130 : decode cX11_load 130 = .ok (.bipush 59, 2) := by decide +kernel
theorem dX11_load_132 : decode cX11_load 132 = .ok (.invokevirtual 136, 3) := by decide +kernel
theorem dX11_load_135 : decode cX11_load 135 = .ok (.aload_n 0, 1) := by decide +kernel
theorem dX11_load_136 : decode cX11_load 136 = .ok (.invokevirtual 97, 3) := by decide +kernel
theorem dX11_load_139 : decode cX11_load 139 = .ok (.ifCond .eq 18, 3) := by decide +kernel
theorem dX11_load_142 : decode cX11_load 142 = .ok (.aload_n 0, 1) := by decide +kernel
theorem dX11_load_143 : decode cX11_load 143 = .ok (.invokevirtual 101, 3) := by decide +kernel
theorem dX11_load_146 : decode cX11_load 146 = .ok (.iconst (-1), 1) := by decide +kernel
theorem dX11_load_147 : decode cX11_load 147 = .ok (.if_icmp .eq 10, 3) := by decide +kernel
theorem dX11_load_150 : decode cX11_load 150 = .ok (.aload_n 0, 1) := by decide +kernel
theorem dX11_load_151 : decode cX11_load 151 = .ok (.invokevirtual 201, 3) := by decide +kernel
theorem dX11_load_154 : decode cX11_load 154 = .ok (.goto (-19), 3) := by decide +kernel
theorem dX11_load_157 : decode cX11_load 157 = .ok (.aload_n 0, 1) := by decide +kernel
theorem dX11_load_158 : decode cX11_load 158 = .ok (.aload_n 0, 1) := by decide +kernel
theorem dX11_load_159 : decode cX11_load 159 = .ok (.getfield 90, 3) := by decide +kernel
theorem dX11_load_162 : decode cX11_load 162 = .ok (.putfield 13, 3) := by decide +kernel
theorem dX11_load_165 : decode cX11_load 165 = .ok (.aload_n 0, 1) := by decide +kernel
theorem dX11_load_166 : decode cX11_load 166 = .ok (.invokevirtual 97, 3) := by decide +kernel
theorem dX11_load_169 : decode cX11_load 169 = .ok (.ifCond .ne 8, 3) := by decide +kernel
theorem dX11_load_172 : decode cX11_load 172 = .ok (.aload_n 0, 1) := by decide +kernel
theorem dX11_load_173 : decode cX11_load 173 = .ok (.getfield 87, 3) := by decide +kernel
theorem dX11_load_176 : decode cX11_load 176 = .ok (.ireturn, 1) := by decide +kernel
theorem dX11_load_177 : decode cX11_load 177 = .ok (.aload_n 0, 1) := by decide +kernel
theorem dX11_load_178 : decode cX11_load 178 = .ok (.invokevirtual 204, 3) := by decide +kernel
theorem dX11_load_181 : decode cX11_load 181 = .ok (.aload_n 0, 1) := by decide +kernel
theorem dX11_load_182 : decode cX11_load 182 = .ok (.getfield 20, 3) := by decide +kernel
theorem dX11_load_185 : decode cX11_load 185 = .ok (.aload_n 0, 1) := by decide +kernel
theorem dX11_load_186 : decode cX11_load 186 = .ok (.getfield 17, 3) := by decide +kernel
theorem dX11_load_189 : decode cX11_load 189 = .ok (.invokestatic 207, 3) := by decide +kernel
theorem dX11_load_192 : decode cX11_load 192 = .ok (.aload_n 0, 1) := by decide +kernel
theorem dX11_load_193 : decode cX11_load 193 = .ok (.getfield 17, 3) := by decide +kernel
theorem dX11_load_196 : decode cX11_load 196 = .ok (.iconst 2, 1) := by decide +kernel
theorem dX11_load_197 : decode cX11_load 197 = .ok (.iaload, 1) := by decide +kernel
theorem dX11_load_198 : decode cX11_load 198 = .ok (.ireturn, 1) := by decide +kernel
theorem dX11_errorOffset_0 : decode cX11_errorOffset 0 = .ok (.aload_n 0, 1) := by decide +kernel
theorem dX11_errorOffset_1 : decode cX11_errorOffset 1 = .ok (.iconst 0, 1) := by decide +kernel
theorem dX11_errorOffset_2 : decode cX11_errorOffset 2 = .ok (.putfield 71, 3) := by decide +kernel
theorem dX11_errorOffset_5 : decode cX11_errorOffset 5 = .ok (.aload_n 0, 1) := by decide +kernel
theorem dX11_errorOffset_6 : decode cX11_errorOffset 6 = .ok (.getfield 13, 3) := by decide +kernel
theorem dX11_errorOffset_9 : decode cX11_errorOffset 9 = .ok (.ireturn, 1) := by decide +kernel
theorem dX11_findWays_0 : decode cX11_findWays 0 = .ok (.aload_n 0, 1) := by decide +kernel
theorem dX11_findWays_1 : decode cX11_findWays 1 = .ok (.getfield 17, 3) := by decide +kernel
theorem dX11_findWays_4 : decode cX11_findWays 4 = .ok (.iconst 0, 1) := by decide +kernel
theorem dX11_findWays_5 : decode cX11_findWays 5 = .ok (.iaload, 1) := by decide +kernel
theorem dX11_findWays_6 : decode cX11_findWays 6 = .ok (.istore_n 1, 1) := by decide +kernel
theorem dX11_findWays_7 : decode cX11_findWays 7 = .ok (.iconst 0, 1) := by decide +kernel
theorem dX11_findWays_8 : decode cX11_findWays 8 = .ok (.istore_n 2, 1) := by decide +kernel
theorem dX11_findWays_9 : decode cX11_findWays 9 = .ok (.iload_n 2, 1) := by decide +kernel
theorem dX11_findWays_10 : decode cX11_findWays 10 = .ok (.iload_n 1, 1) := by decide +kernel
theorem dX11_findWays_11 : decode cX11_findWays 11 = .ok (.if_icmp .ge 41, 3) := by decide +kernel
theorem dX11_findWays_14 : decode cX11_findWays 14 = .ok (.iconst 0, 1) := by decide +kernel
theorem dX11_findWays_15 : decode cX11_findWays 15 = .ok (.istore_n 3, 1) := by decide +kernel
theorem dX11_findWays_16 : decode cX11_findWays 16 = .ok (.iload_n 3, 1) := by decide +kernel
theorem dX11_findWays_17 : decode cX11_findWays 17 = .ok (.iload_n 1, 1) := by decide +kernel
theorem dX11_findWays_18 : decode cX11_findWays 18 = .ok (.if_icmp .ge 28, 3) := by decide +kernel
theorem dX11_findWays_21 : decode cX11_findWays 21 = .ok (.aload_n 0, 1) := by decide +kernel
theorem dX11_findWays_22 : decode cX11_findWays 22 = .ok (.getfield 28, 3) := by decide +kernel
theorem dX11_findWays_25 : decode cX11_findWays 25 = .ok (.iload_n 2, 1) := by decide +kernel
theorem dX11_findWays_26 : decode cX11_findWays 26 = .ok (.aaload, 1) := by decide +kernel
theorem dX11_findWays_27 : decode cX11_findWays 27 = .ok (.iload_n 3, 1) := by decide +kernel
theorem dX11_findWays_28 : decode cX11_findWays 28 = .ok (.iload_n 2, 1) := by decide +kernel
theorem dX11_findWays_29 : decode cX11_findWays 29 = .ok (.iload_n 3, 1) := by decide +kernel
theorem dX11_findWays_30 : decode cX11_findWays 30 = .ok (.if_icmp .ne 7, 3) := by decide +kernel
theorem dX11_findWays_33 : decode cX11_findWays 33 = .ok (.iconst 0, 1) := by decide +kernel
theorem dX11_findWays_34 : decode cX11_findWays 34 = .ok (.goto 5, 3) := by decide +kernel
theorem dX11_findWays_37 : decode cX11_findWays 37 = .ok (.ldc 125, 2) := by decide +kernel
theorem dX11_findWays_39 : decode cX11_findWays 39 = .ok (.iastore, 1) := by decide +kernel
theorem dX11_findWays_40 : decode cX11_findWays 40 = .ok (.iinc 3 1, 3) := by decide +kernel
theorem dX11_findWays_43 : decode cX11_findWays 43 = .ok (.goto (-27), 3) := by decide +kernel
theorem dX11_findWays_46 : decode cX11_findWays 46 = .ok (.iinc 2 1, 3) := by decide +kernel
theorem dX11_findWays_49 : decode cX11_findWays 49 = .ok (.goto (-40), 3) := by decide +kernel
theorem dX11_findWays_52 : decode cX11_findWays 52 = .ok (.iconst 0, 1) := by decide +kernel
theorem dX11_findWays_53 : decode cX11_findWays 53 = .ok (.istore_n 2, 1) := by decide +kernel
theorem dX11_findWays_54 : decode cX11_findWays 54 = .ok (.iload_n 2, 1) := by decide +kernel
theorem dX11_findWays_55 : decode cX11_findWays 55 = .ok (.aload_n 0, 1) := by decide +kernel
theorem dX11_findWays_56 : decode cX11_findWays 56 = .ok (.getfield 17, 3) := by decide +kernel
theorem dX11_findWays_59 : decode cX11_findWays 59 = .ok (.iconst 1, 1) := by decide +kernel
theorem dX11_findWays_60 : decode cX11_findWays 60 = .ok (.iaload, 1) := by decide +kernel
theorem dX11_findWays_61 : decode cX11_findWays 61 = .ok (.if_icmp .ge 98, 3) := by decide +kernel
theorem dX11_findWays_64 : decode cX11_findWays 64 = .ok (.iload_n 2, 1) := by decide +kernel
theorem dX11_findWays_65 : decode cX11_findWays 65 = .ok (.invokestatic 162, 3) := by decide +kernel
theorem dX11_findWays_68 : decode cX11_findWays 68 = .ok (.istore_n 3, 1) := by decide +kernel
theorem dX11_findWays_69 : decode cX11_findWays 69 = .ok (.aload_n 0, 1) := by decide +kernel
theorem dX11_findWays_70 : decode cX11_findWays 70 = .ok (.getfield 17, 3) := by decide +kernel
theorem dX11_findWays_73 : decode cX11_findWays 73 = .ok (.iload_n 3, 1) := by decide +kernel
theorem dX11_findWays_74 : decode cX11_findWays 74 = .ok (.iaload, 1) := by decide +kernel
theorem dX11_findWays_75 : decode cX11_findWays 75 = .ok (.istore 4, 2) := by decide +kernel
theorem dX11_findWays_77 : decode cX11_findWays 77 = .ok (.aload_n 0, 1) := by decide +kernel
theorem dX11_findWays_78 : decode cX11_findWays 78 = .ok (.getfield 17, 3) := by decide +kernel
theorem dX11_findWays_81 : decode cX11_findWays 81 = .ok (.iload_n 3, 1) := by decide +kernel
theorem dX11_findWays_82 : decode cX11_findWays 82 = .ok (.iconst 1, 1) := by decide +kernel
theorem dX11_findWays_83 : decode cX11_findWays 83 = .ok (.iadd, 1) := by decide +kernel
theorem dX11_findWays_84 : decode cX11_findWays 84 = .ok (.iaload, 1) := by decide +kernel
theorem dX11_findWays_85 : decode cX11_findWays 85 = .ok (.istore 5, 2) := by decide +kernel
theorem dX11_findWays_87 : decode cX11_findWays 87 = .ok (.aload_n 0, 1) := by decide +kernel
theorem dX11_findWays_88 : decode cX11_findWays 88 = .ok (.getfield 17, 3) := by decide +kernel
theorem dX11_findWays_91 : decode cX11_findWays 91 = .ok (.iload_n 3, 1) := by decide +kernel
theorem dX11_findWays_92 : decode cX11_findWays 92 = .ok (.iconst 3, 1) := by decide +kernel
theorem dX11_findWays_93 : decode cX11_findWays 93 = .ok (.iadd, 1) := by decide +kernel
theorem dX11_findWays_94 : decode cX11_findWays 94 = .ok (.iaload, 1) := by decide +kernel
theorem dX11_findWays_95 : decode cX11_findWays 95 = .ok (.iconst 1, 1) := by decide +kernel
theorem dX11_findWays_96 : decode cX11_findWays 96 = .ok (.if_icmp .ne 6, 3) := by decide +kernel
theorem dX11_findWays_99 : decode cX11_findWays 99 = .ok (.goto 54, 3) := by decide +kernel
theorem dX11_findWays_102 : decode cX11_findWays 102 = .ok (.aload_n 0, 1) := by decide +kernel
theorem dX11_findWays_103 : decode cX11_findWays 103 = .ok (.getfield 28, 3) := by decide +kernel
theorem dX11_findWays_106 : decode cX11_findWays 106 = .ok (.iload 4, 2) := by decide +kernel
theorem dX11_findWays_108 : decode cX11_findWays 108 = .ok (.aaload, 1) := by decide +kernel
theorem dX11_findWays_109 : decode cX11_findWays 109 = .ok (.iload 5, 2) := by decide +kernel
theorem dX11_findWays_111 : decode cX11_findWays 111 = .ok (.aload_n 0, 1) := by decide +kernel
theorem dX11_findWays_112 : decode cX11_findWays 112 = .ok (.getfield 28, 3) := by decide +kernel
theorem dX11_findWays_115 : decode cX11_findWays 115 = .ok (.iload 4, 2) := by decide +kernel
theorem dX11_findWays_117 : decode cX11_findWays 117 = .ok (.aaload, 1) := by decide +kernel
theorem dX11_findWays_118 : decode cX11_findWays 118 = .ok (.iload 5, 2) := by decide +kernel
theorem dX11_findWays_120 : decode cX11_findWays 120 = .ok (.iaload, 1) := by decide +kernel
theorem dX11_findWays_121 : decode cX11_findWays 121 = .ok (.aload_n 0, 1) := by decide +kernel
theorem dX11_findWays_122 : decode cX11_findWays 122 = .ok (.getfield 17, 3) := by decide +kernel
theorem dX11_findWays_125 : decode cX11_findWays 125 = .ok (.iload_n 3, 1) := by decide +kernel
theorem dX11_findWays_126 : decode cX11_findWays 126 = .ok (.iconst 2, 1) := by decide +kernel
theorem dX11_findWays_127 : decode cX11_findWays 127 = .ok (.iadd, 1) := by decide +kernel
theorem dX11_findWays_128 : decode cX11_findWays 128 = .ok (.iaload, 1) := by decide +kernel
theorem dX11_findWays_129 : decode cX11_findWays 129 = .ok (.invokestatic 126, 3) := by decide +kernel
theorem dX11_findWays_132 : decode cX11_findWays 132 = .ok (.iastore, 1) := by decide +kernel
theorem dX11_findWays_133 : decode cX11_findWays 133 = .ok (.aload_n 0, 1) := by decide +kernel
theorem dX11_findWays_134 : decode cX11_findWays 134 = .ok (.getfield 28, 3) := by decide +kernel
theorem dX11_findWays_137 : decode cX11_findWays 137 = .ok (.iload 5, 2) := by decide +kernel
theorem dX11_findWays_139 : decode cX11_findWays 139 = .ok (.aaload, 1) := by decide +kernel
theorem dX11_findWays_140 : decode cX11_findWays 140 = .ok (.iload 4, 2) := by decide +kernel
theorem dX11_findWays_142 : decode cX11_findWays 142 = .ok (.aload_n 0, 1) := by decide +kernel
theorem dX11_findWays_143 : decode cX11_findWays 143 = .ok (.getfield 28, 3) := by decide +kernel
theorem dX11_findWays_146 : decode cX11_findWays 146 = .ok (.iload 4, 2) := by decide +kernel
theorem dX11_findWays_148 : decode cX11_findWays 148 = .ok (.aaload, 1) := by decide +kernel
theorem dX11_findWays_149 : decode cX11_findWays 149 = .ok (.iload 5, 2) := by decide +kernel
theorem dX11_findWays_151 : decode cX11_findWays 151 = .ok (.iaload, 1) := by decide +kernel
theorem dX11_findWays_152 : decode cX11_findWays 152 = .ok (.iastore, 1) := by decide +kernel
theorem dX11_findWays_153 : decode cX11_findWays 153 = .ok (.iinc 2 1, 3) := by decide +kernel
theorem dX11_findWays_156 : decode cX11_findWays 156 = .ok (.goto (-102), 3) := by decide +kernel
theorem dX11_findWays_159 : decode cX11_findWays 159 = .ok (.iconst 0, 1) := by decide +kernel
theorem dX11_findWays_160 : decode cX11_findWays 160 = .ok (.istore_n 2, 1) := by decide +kernel
theorem dX11_findWays_161 : decode cX11_findWays 161 = .ok (.iload_n 2, 1) := by decide +kernel
theorem dX11_findWays_162 : decode cX11_findWays 162 = .ok (.iload_n 1, 1) := by decide +kernel
theorem dX11_findWays_163 : decode cX11_findWays 163 = .ok (.if_icmp .ge 76, 3) := by decide +kernel
theorem dX11_findWays_166 : decode cX11_findWays 166 = .ok (.iconst 0, 1) := by decide +kernel
theorem dX11_findWays_167 : decode cX11_findWays 167 = .ok (.istore_n 3, 1) := by decide +kernel
theorem dX11_findWays_168 : decode cX11_findWays 168 = .ok (.iload_n 3, 1) := by decide +kernel
theorem dX11_findWays_169 : decode cX11_findWays 169 = .ok (.iload_n 1, 1) := by decide +kernel
theorem dX11_findWays_170 : decode cX11_findWays 170 = .ok (.if_icmp .ge 63, 3) := by decide +kernel
theorem dX11_findWays_173 : decode cX11_findWays 173 = .ok (.iconst 0, 1) := by decide +kernel
theorem dX11_findWays_174 : decode cX11_findWays 174 = .ok (.istore 4, 2) := by decide +kernel
theorem dX11_findWays_176 : decode cX11_findWays 176 = .ok (.iload 4, 2) := by decide +kernel
theorem dX11_findWays_178 : decode cX11_findWays 178 = .ok (.iload_n 1, 1) := by decide +kernel
theorem dX11_findWays_179 : decode cX11_findWays 179 = .ok (.if_icmp .ge 48, 3) := by decide +kernel
theorem dX11_findWays_182 : decode cX11_findWays 182 = .ok (.aload_n 0, 1) := by decide +kernel
theorem dX11_findWays_183 : decode cX11_findWays 183 = .ok (.getfield 28, 3) := by decide +kernel
theorem dX11_findWays_186 : decode cX11_findWays 186 = .ok (.iload_n 3, 1) := by decide +kernel
theorem dX11_findWays_187 : decode cX11_findWays 187 = .ok (.aaload, 1) := by decide +kernel
theorem dX11_findWays_188 : decode cX11_findWays 188 = .ok (.iload 4, 2) := by decide +kernel
theorem dX11_findWays_190 : decode cX11_findWays 190 = .ok (.aload_n 0, 1) := by decide +kernel
theorem dX11_findWays_191 : decode cX11_findWays 191 = .ok (.getfield 28, 3) := by decide +kernel
theorem dX11_findWays_194 : decode cX11_findWays 194 = .ok (.iload_n 3, 1) := by decide +kernel
theorem dX11_findWays_195 : decode cX11_findWays 195 = .ok (.aaload, 1) := by decide +kernel
theorem dX11_findWays_196 : decode cX11_findWays 196 = .ok (.iload 4, 2) := by decide +kernel
theorem dX11_findWays_198 : decode cX11_findWays 198 = .ok (.iaload, 1) := by decide +kernel
theorem dX11_findWays_199 : decode cX11_findWays 199 = .ok (.aload_n 0, 1) := by decide +kernel
theorem dX11_findWays_200 : decode cX11_findWays 200 = .ok (.getfield 28, 3) := by decide +kernel
theorem dX11_findWays_203 : decode cX11_findWays 203 = .ok (.iload_n 3, 1) := by decide +kernel
theorem dX11_findWays_204 : decode cX11_findWays 204 = .ok (.aaload, 1) := by decide +kernel
theorem dX11_findWays_205 : decode cX11_findWays 205 = .ok (.iload_n 2, 1) := by decide +kernel
theorem dX11_findWays_206 : decode cX11_findWays 206 = .ok (.iaload, 1) := by decide +kernel
theorem dX11_findWays_207 : decode cX11_findWays 207 = .ok (.aload_n 0, 1) := by decide +kernel
theorem dX11_findWays_208 : decode cX11_findWays 208 = .ok (.getfield 28, 3) := by decide +kernel
theorem dX11_findWays_211 : decode cX11_findWays 211 = .ok (.iload_n 2, 1) := by decide +kernel
theorem dX11_findWays_212 : decode cX11_findWays 212 = .ok (.aaload, 1) := by decide +kernel
theorem dX11_findWays_213 : decode cX11_findWays 213 = .ok (.iload 4, 2) := by decide +kernel
theorem dX11_findWays_215 : decode cX11_findWays 215 = .ok (.iaload, 1) := by decide +kernel
theorem dX11_findWays_216 : decode cX11_findWays 216 = .ok (.iadd, 1) := by decide +kernel
theorem dX11_findWays_217 : decode cX11_findWays 217 = .ok (.invokestatic 126, 3) := by decide +kernel
theorem dX11_findWays_220 : decode cX11_findWays 220 = .ok (.iastore, 1) := by decide +kernel
theorem dX11_findWays_221 : decode cX11_findWays 221 = .ok (.iinc 4 1, 3) := by decide +kernel
theorem dX11_findWays_224 : decode cX11_findWays 224 = .ok (.goto (-48), 3) := by decide +kernel
theorem dX11_findWays_227 : decode cX11_findWays 227 = .ok (.iinc 3 1, 3) := by decide +kernel
theorem dX11_findWays_230 : decode cX11_findWays 230 = .ok (.goto (-62), 3) := by decide +kernel
theorem dX11_findWays_233 : decode cX11_findWays 233 = .ok (.iinc 2 1, 3) := by decide +kernel
theorem dX11_findWays_236 : decode cX11_findWays 236 = .ok (.goto (-75), 3) := by decide +kernel
theorem dX11_findWays_239 : decode cX11_findWays 239 = .ok (.return_, 1) := by decide +kernel
theorem dX11_streetAt_0 : decode cX11_streetAt 0 = .ok (.aload_n 0, 1) := by decide +kernel
theorem dX11_streetAt_1 : decode cX11_streetAt 1 = .ok (.getfield 17, 3) := by decide +kernel
theorem dX11_streetAt_4 : decode cX11_streetAt 4 = .ok (.iload_n 1, 1) := by decide +kernel
theorem dX11_streetAt_5 : decode cX11_streetAt 5 = .ok (.invokestatic 165, 3) := by decide +kernel
theorem dX11_streetAt_8 : decode cX11_streetAt 8 = .ok (.iaload, 1) := by decide +kernel
theorem dX11_streetAt_9 : decode cX11_streetAt 9 = .ok (.invokestatic 162, 3) := by decide +kernel
theorem dX11_streetAt_12 : decode cX11_streetAt 12 = .ok (.ireturn, 1) := by decide +kernel
theorem dX11_toStart_0 : decode cX11_toStart 0 = .ok (.aload_n 0, 1) := by decide +kernel
theorem dX11_toStart_1 : decode cX11_toStart 1 = .ok (.getfield 17, 3) := by decide +kernel
theorem dX11_toStart_4 : decode cX11_toStart 4 = .ok (.iload_n 1, 1) := by decide +kernel
theorem dX11_toStart_5 : decode cX11_toStart 5 = .ok (.invokestatic 165, 3) := by decide +kernel
theorem dX11_toStart_8 : decode cX11_toStart 8 = .ok (.iconst 1, 1) := by decide +kernel
theorem dX11_toStart_9 : decode cX11_toStart 9 = .ok (.iadd, 1) := by decide +kernel
theorem dX11_toStart_10 : decode cX11_toStart 10 = .ok (.iaload, 1) := by decide +kernel
theorem dX11_toStart_11 : decode cX11_toStart 11 = .ok (.ireturn, 1) := by decide +kernel
theorem dX11_toEnd_0 : decode cX11_toEnd 0 = .ok (.aload_n 0, 1) := by decide +kernel
theorem dX11_toEnd_1 : decode cX11_toEnd 1 = .ok (.getfield 17, 3) := by decide +kernel
theorem dX11_toEnd_4 : decode cX11_toEnd 4 = .ok (.aload_n 0, 1) := by decide +kernel
theorem dX11_toEnd_5 : decode cX11_toEnd 5 = .ok (.iload_n 1, 1) := by decide +kernel
theorem dX11_toEnd_6 : decode cX11_toEnd 6 = .ok (.invokevirtual 211, 3) := by decide +kernel
theorem dX11_toEnd_9 : decode cX11_toEnd 9 = .ok (.iconst 2, 1) := by decide +kernel
theorem dX11_toEnd_10 : decode cX11_toEnd 10 = .ok (.iadd, 1) := by decide +kernel
theorem dX11_toEnd_11 : decode cX11_toEnd 11 = .ok (.iaload, 1) := by decide +kernel
theorem dX11_toEnd_12 : decode cX11_toEnd 12 = .ok (.aload_n 0, 1) := by decide +kernel
theorem dX11_toEnd_13 : decode cX11_toEnd 13 = .ok (.iload_n 1, 1) := by decide +kernel
theorem dX11_toEnd_14 : decode cX11_toEnd 14 = .ok (.invokevirtual 214, 3) := by decide +kernel
theorem dX11_toEnd_17 : decode cX11_toEnd 17 = .ok (.isub, 1) := by decide +kernel
theorem dX11_toEnd_18 : decode cX11_toEnd 18 = .ok (.ireturn, 1) := by decide +kernel
theorem dX11_isShut_0 : decode cX11_isShut 0 = .ok (.aload_n 0, 1) := by decide +kernel
theorem dX11_isShut_1 : decode cX11_isShut 1 = .ok (.getfield 17, 3) := by decide +kernel
theorem dX11_isShut_4 : decode cX11_isShut 4 = .ok (.aload_n 0, 1) := by decide +kernel
theorem dX11_isShut_5 : decode cX11_isShut 5 = .ok (.iload_n 1, 1) := by decide +kernel
theorem dX11_isShut_6 : decode cX11_isShut 6 = .ok (.invokevirtual 211, 3) := by decide +kernel
theorem dX11_isShut_9 : decode cX11_isShut 9 = .ok (.iconst 3, 1) := by decide +kernel
theorem dX11_isShut_10 : decode cX11_isShut 10 = .ok (.iadd, 1) := by decide +kernel
theorem dX11_isShut_11 : decode cX11_isShut 11 = .ok (.iaload, 1) := by decide +kernel
theorem dX11_isShut_12 : decode cX11_isShut 12 = .ok (.iconst 1, 1) := by decide +kernel
theorem dX11_isShut_13 : decode cX11_isShut 13 = .ok (.if_icmp .ne 7, 3) := by decide +kernel
theorem dX11_isShut_16 : decode cX11_isShut 16 = .ok (.iconst 1, 1) := by decide +kernel
theorem dX11_isShut_17 : decode cX11_isShut 17 = .ok (.goto 4, 3) := by decide +kernel
theorem dX11_isShut_20 : decode cX11_isShut 20 = .ok (.iconst 0, 1) := by decide +kernel
theorem dX11_isShut_21 : decode cX11_isShut 21 = .ok (.ireturn, 1) := by decide +kernel
theorem dX11_fromCrossing_0 : decode cX11_fromCrossing 0 = .ok (.aload_n 0, 1) := by decide +kernel
theorem dX11_fromCrossing_1 : decode cX11_fromCrossing 1 = .ok (.iload_n 2, 1) := by decide +kernel
theorem dX11_fromCrossing_2 : decode cX11_fromCrossing 2 = .ok (.invokevirtual 217, 3) := by decide +kernel
theorem dX11_fromCrossing_5 : decode cX11_fromCrossing 5 = .ok (.ifCond .eq 6, 3) := by decide +kernel
theorem dX11_fromCrossing_8 : decode cX11_fromCrossing 8 = .ok (.ldc 125, 2) := by decide +kernel
theorem dX11_fromCrossing_10 : decode cX11_fromCrossing 10 = .ok (.ireturn, 1) := by decide +kernel
theorem dX11_fromCrossing_11 : decode cX11_fromCrossing 11 = .ok (.aload_n 0, 1) := by decide +kernel
theorem dX11_fromCrossing_12 : decode cX11_fromCrossing 12 = .ok (.getfield 28, 3) := by decide +kernel
theorem dX11_fromCrossing_15 : decode cX11_fromCrossing 15 = .ok (.iload_n 1, 1) := by decide +kernel
theorem dX11_fromCrossing_16 : decode cX11_fromCrossing 16 = .ok (.aaload, 1) := by decide +kernel
theorem dX11_fromCrossing_17 : decode cX11_fromCrossing 17 = .ok (.aload_n 0, 1) := by decide +kernel
theorem dX11_fromCrossing_18 : decode cX11_fromCrossing 18 = .ok (.getfield 17, 3) := by decide +kernel
theorem dX11_fromCrossing_21 : decode cX11_fromCrossing 21 = .ok (.aload_n 0, 1) := by decide +kernel
theorem dX11_fromCrossing_22 : decode cX11_fromCrossing 22 = .ok (.iload_n 2, 1) := by decide +kernel
theorem dX11_fromCrossing_23 : decode cX11_fromCrossing 23 = .ok (.invokevirtual 211, 3) := by decide +kernel
theorem dX11_fromCrossing_26 : decode cX11_fromCrossing 26 = .ok (.iaload, 1) := by decide +kernel
theorem dX11_fromCrossing_27 : decode cX11_fromCrossing 27 = .ok (.iaload, 1) := by decide +kernel
theorem dX11_fromCrossing_28 : decode cX11_fromCrossing 28 = .ok (.aload_n 0, 1) := by decide +kernel
theorem dX11_fromCrossing_29 : decode cX11_fromCrossing 29 = .ok (.iload_n 2, 1) := by decide +kernel
theorem dX11_fromCrossing_30 : decode cX11_fromCrossing 30 = .ok (.invokevirtual 214, 3) := by decide +kernel
theorem dX11_fromCrossing_33 : decode cX11_fromCrossing 33 = .ok (.iadd, 1) := by decide +kernel
theorem dX11_fromCrossing_34 : decode cX11_fromCrossing 34 = .ok (.aload_n 0, 1) := by decide +kernel
theorem dX11_fromCrossing_35 : decode cX11_fromCrossing 35 = .ok (.getfield 28, 3) := by decide +kernel
theorem dX11_fromCrossing_38 : decode cX11_fromCrossing 38 = .ok (.iload_n 1, 1) := by decide +kernel
theorem dX11_fromCrossing_39 : decode cX11_fromCrossing 39 = .ok (.aaload, 1) := by decide +kernel
theorem dX11_fromCrossing_40 : decode cX11_fromCrossing 40 = .ok (.aload_n 0, 1) := by decide +kernel
theorem dX11_fromCrossing_41 : decode cX11_fromCrossing 41 = .ok (.getfield 17, 3) := by decide +kernel
theorem dX11_fromCrossing_44 : decode cX11_fromCrossing 44 = .ok (.aload_n 0, 1) := by decide +kernel
theorem dX11_fromCrossing_45 : decode cX11_fromCrossing 45 = .ok (.iload_n 2, 1) := by decide +kernel
theorem dX11_fromCrossing_46 : decode cX11_fromCrossing 46 = .ok (.invokevirtual 211, 3) := by decide +kernel
theorem dX11_fromCrossing_49 : decode cX11_fromCrossing 49 = .ok (.iconst 1, 1) := by decide +kernel
theorem dX11_fromCrossing_50 : decode cX11_fromCrossing 50 = .ok (.iadd, 1) := by decide +kernel
theorem dX11_fromCrossing_51 : decode cX11_fromCrossing 51 = .ok (.iaload, 1) := by decide +kernel
theorem dX11_fromCrossing_52 : decode cX11_fromCrossing 52 = .ok (.iaload, 1) := by decide +kernel
theorem dX11_fromCrossing_53 : decode cX11_fromCrossing 53 = .ok (.aload_n 0, 1) := by decide +kernel
theorem dX11_fromCrossing_54 : decode cX11_fromCrossing 54 = .ok (.iload_n 2, 1) := by decide +kernel
theorem dX11_fromCrossing_55 : decode cX11_fromCrossing 55 = .ok (.invokevirtual 220, 3) := by decide +kernel
theorem dX11_fromCrossing_58 : decode cX11_fromCrossing 58 = .ok (.iadd, 1) := by decide +kernel
theorem dX11_fromCrossing_59 : decode cX11_fromCrossing 59 = .ok (.invokestatic 126, 3) := by decide +kernel
theorem dX11_fromCrossing_62 : decode cX11_fromCrossing 62 = .ok (.ireturn, 1) := by decide +kernel
theorem dX11_between_0 : decode cX11_between 0 = .ok (.iload_n 1, 1) := by decide +kernel
theorem dX11_between_1 : decode cX11_between 1 = .ok (.iload_n 2, 1) := by decide +kernel
theorem dX11_between_2 : decode cX11_between 2 = .ok (.if_icmp .ne 5, 3) := by decide +kernel
theorem dX11_between_5 : decode cX11_between 5 = .ok (.iconst 0, 1) := by decide +kernel
theorem dX11_between_6 : decode cX11_between 6 = .ok (.ireturn, 1) := by decide +kernel
theorem dX11_between_7 : decode cX11_between 7 = .ok (.aload_n 0, 1) := by decide +kernel
theorem dX11_between_8 : decode cX11_between 8 = .ok (.iload_n 1, 1) := by decide +kernel
theorem dX11_between_9 : decode cX11_between 9 = .ok (.invokevirtual 217, 3) := by decide +kernel
theorem dX11_between_12 : decode cX11_between 12 = .ok (.ifCond .ne 11, 3) := by decide +kernel
theorem dX11_between_15 : decode cX11_between 15 = .ok (.aload_n 0, 1) := by decide +kernel
theorem dX11_between_16 : decode cX11_between 16 = .ok (.iload_n 2, 1) := by decide +kernel
theorem dX11_between_17 : decode cX11_between 17 = .ok (.invokevirtual 217, 3) := by decide +kernel
theorem dX11_between_20 : decode cX11_between 20 = .ok (.ifCond .eq 6, 3) := by decide +kernel
theorem dX11_between_23 : decode cX11_between 23 = .ok (.ldc 125, 2) := by decide +kernel
theorem dX11_between_25 : decode cX11_between 25 = .ok (.ireturn, 1) := by decide +kernel
theorem dX11_between_26 : decode cX11_between 26 = .ok (.aload_n 0, 1) := by decide +kernel
theorem dX11_between_27 : decode cX11_between 27 = .ok (.iload_n 1, 1) := by decide +kernel
theorem dX11_between_28 : decode cX11_between 28 = .ok (.invokevirtual 214, 3) := by decide +kernel
theorem dX11_between_31 : decode cX11_between 31 = .ok (.aload_n 0, 1) := by decide +kernel
theorem dX11_between_32 : decode cX11_between 32 = .ok (.aload_n 0, 1) := by decide +kernel
theorem dX11_between_33 : decode cX11_between 33 = .ok (.getfield 17, 3) := by decide +kernel
theorem dX11_between_36 : decode cX11_between 36 = .ok (.aload_n 0, 1) := by decide +kernel
theorem dX11_between_37 : decode cX11_between 37 = .ok (.iload_n 1, 1) := by decide +kernel
theorem dX11_between_38 : decode cX11_between 38 = .ok (.invokevirtual 211, 3) := by decide +kernel
theorem dX11_between_41 : decode cX11_between 41 = .ok (.iaload, 1) := by decide +kernel
theorem dX11_between_42 : decode cX11_between 42 = .ok (.iload_n 2, 1) := by decide +kernel
theorem dX11_between_43 : decode cX11_between 43 = .ok (.invokevirtual 223, 3) := by decide +kernel
theorem dX11_between_46 : decode cX11_between 46 = .ok (.iadd, 1) := by decide +kernel
theorem dX11_between_47 : decode cX11_between 47 = .ok (.aload_n 0, 1) := by decide +kernel
theorem dX11_between_48 : decode cX11_between 48 = .ok (.iload_n 1, 1) := by decide +kernel
theorem dX11_between_49 : decode cX11_between 49 = .ok (.invokevirtual 220, 3) := by decide +kernel
theorem dX11_between_52 : decode cX11_between 52 = .ok (.aload_n 0, 1) := by decide +kernel
theorem dX11_between_53 : decode cX11_between 53 = .ok (.aload_n 0, 1) := by decide +kernel
theorem dX11_between_54 : decode cX11_between 54 = .ok (.getfield 17, 3) := by decide +kernel
theorem dX11_between_57 : decode cX11_between 57 = .ok (.aload_n 0, 1) := by decide +kernel
theorem dX11_between_58 : decode cX11_between 58 = .ok (.iload_n 1, 1) := by decide +kernel
theorem dX11_between_59 : decode cX11_between 59 = .ok (.invokevirtual 211, 3) := by decide +kernel
theorem dX11_between_62 : decode cX11_between 62 = .ok (.iconst 1, 1) := by decide +kernel
theorem dX11_between_63 : decode cX11_between 63 = .ok (.iadd, 1) := by decide +kernel
theorem dX11_between_64 : decode cX11_between 64 = .ok (.iaload, 1) := by decide +kernel
theorem dX11_between_65 : decode cX11_between 65 = .ok (.iload_n 2, 1) := by decide +kernel
theorem dX11_between_66 : decode cX11_between 66 = .ok (.invokevirtual 223, 3) := by decide +kernel
theorem dX11_between_69 : decode cX11_between 69 = .ok (.iadd, 1) := by decide +kernel
theorem dX11_between_70 : decode cX11_between 70 = .ok (.invokestatic 126, 3) := by decide +kernel
theorem dX11_between_73 : decode cX11_between 73 = .ok (.istore_n 3, 1) := by decide +kernel
theorem dX11_between_74 : decode cX11_between 74 = .ok (.aload_n 0, 1) := by decide +kernel
theorem dX11_between_75 : decode cX11_between 75 = .ok (.getfield 17, 3) := by decide +kernel
theorem dX11_between_78 : decode cX11_between 78 = .ok (.iload_n 1, 1) := by decide +kernel
theorem dX11_between_79 : decode cX11_between 79 = .ok (.invokestatic 165, 3) := by decide +kernel
theorem dX11_between_82 : decode cX11_between 82 = .ok (.iaload, 1) := by decide +kernel
theorem dX11_between_83 : decode cX11_between 83 = .ok (.aload_n 0, 1) := by decide +kernel
theorem dX11_between_84 : decode cX11_between 84 = .ok (.getfield 17, 3) := by decide +kernel
theorem dX11_between_87 : decode cX11_between 87 = .ok (.iload_n 2, 1) := by decide +kernel
theorem dX11_between_88 : decode cX11_between 88 = .ok (.invokestatic 165, 3) := by decide +kernel
theorem dX11_between_91 : decode cX11_between 91 = .ok (.iaload, 1) := by decide +kernel
theorem dX11_between_92 : decode cX11_between 92 = .ok (.if_icmp .eq 5, 3) := by decide +kernel
theorem dX11_between_95 : decode cX11_between 95 = .ok (.iload_n 3, 1) := by decide +kernel
theorem dX11_between_96 : decode cX11_between 96 = .ok (.ireturn, 1) := by decide +kernel
theorem dX11_between_97 : decode cX11_between 97 = .ok (.aload_n 0, 1) := by decide +kernel
theorem dX11_between_98 : decode cX11_between 98 = .ok (.iload_n 1, 1) := by decide +kernel
theorem dX11_between_99 : decode cX11_between 99 = .ok (.invokevirtual 214, 3) := by decide +kernel
theorem dX11_between_102 : decode cX11_between 102 = .ok (.aload_n 0, 1) := by decide +kernel
theorem dX11_between_103 : decode cX11_between 103 = .ok (.iload_n 2, 1) := by decide +kernel
theorem dX11_between_104 : decode cX11_between 104 = .ok (.invokevirtual 214, 3) := by decide +kernel
theorem dX11_between_107 : decode cX11_between 107 = .ok (.isub, 1) := by decide +kernel
theorem dX11_between_108 : decode cX11_between 108 = .ok (.istore 4, 2) := by decide +kernel
theorem dX11_between_110 : decode cX11_between 110 = .ok (.iload_n 3, 1) := by decide +kernel
theorem dX11_between_111 : decode cX11_between 111 = .ok (.iload 4, 2) := by decide +kernel
theorem dX11_between_113 : decode cX11_between 113 = .ok (.ifCond .ge 9, 3) := by decide +kernel
theorem dX11_between_116 : decode cX11_between 116 = .ok (.iload 4, 2) := by decide +kernel
theorem dX11_between_118 : decode cX11_between 118 = .ok (.ineg, 1) := by decide +kernel
theorem dX11_between_119 : decode cX11_between 119 = .ok (.goto 5, 3) := by decide +kernel
theorem dX11_between_122 : decode cX11_between 122 = .ok (.iload 4, 2) := by decide +kernel
theorem dX11_between_124 : decode cX11_between 124 = .ok (.invokestatic 126, 3) := by decide +kernel
theorem dX11_between_127 : decode cX11_between 127 = .ok (.aload_n 0, 1) := by decide +kernel
theorem dX11_between_128 : decode cX11_between 128 = .ok (.getfield 17, 3) := by decide +kernel
theorem dX11_between_131 : decode cX11_between 131 = .ok (.iload_n 1, 1) := by decide +kernel
theorem dX11_between_132 : decode cX11_between 132 = .ok (.invokestatic 165, 3) := by decide +kernel
theorem dX11_between_135 : decode cX11_between 135 = .ok (.iconst 2, 1) := by decide +kernel
theorem dX11_between_136 : decode cX11_between 136 = .ok (.iadd, 1) := by decide +kernel
theorem dX11_between_137 : decode cX11_between 137 = .ok (.iaload, 1) := by decide +kernel
theorem dX11_between_138 : decode cX11_between 138 = .ok (.aload_n 0, 1) := by decide +kernel
theorem dX11_between_139 : decode cX11_between 139 = .ok (.getfield 17, 3) := by decide +kernel
theorem dX11_between_142 : decode cX11_between 142 = .ok (.iload_n 2, 1) := by decide +kernel
theorem dX11_between_143 : decode cX11_between 143 = .ok (.invokestatic 165, 3) := by decide +kernel
theorem dX11_between_146 : decode cX11_between 146 = .ok (.iconst 2, 1) := by decide +kernel
theorem dX11_between_147 : decode cX11_between 147 = .ok (.iadd, 1) := by decide +kernel
theorem dX11_between_148 : decode cX11_between 148 = .ok (.iaload, 1) := by decide +kernel
theorem dX11_between_149 : decode cX11_between 149 = .ok (.if_icmp .ne 7, 3) := by decide +kernel
theorem dX11_between_152 : decode cX11_between 152 = .ok (.iconst 0, 1) := by decide +kernel
theorem dX11_between_153 : decode cX11_between 153 = .ok (.goto 9, 3) := by decide +kernel
theorem dX11_between_156 : decode cX11_between 156 = .ok (.aload_n 0, 1) := by decide +kernel
theorem dX11_between_157 : decode cX11_between 157 = .ok (.getfield 17, 3) := by decide +kernel
theorem dX11_between_160 : decode cX11_between 160 = .ok (.iconst 4, 1) := by decide +kernel
theorem dX11_between_161 : decode cX11_between 161 = .ok (.iaload, 1) := by decide +kernel
theorem dX11_between_162 : decode cX11_between 162 = .ok (.iadd, 1) := by decide +kernel
theorem dX11_between_163 : decode cX11_between 163 = .ok (.ireturn, 1) := by decide +kernel
theorem dX11_told_0 : decode cX11_told 0 = .ok (.iload_n 0, 1) := by decide +kernel
theorem dX11_told_1 : decode cX11_told 1 = .ok (.ldc 125, 2) := by decide +kernel
theorem dX11_told_3 : decode cX11_told 3 = .ok (.if_icmp .lt 7, 3) := by decide +kernel
theorem dX11_told_6 : decode cX11_told 6 = .ok (.iconst (-1), 1) := by decide +kernel
theorem dX11_told_7 : decode cX11_told 7 = .ok (.goto 4, 3) := by decide +kernel
theorem dX11_told_10 : decode cX11_told 10 = .ok (.iload_n 0, 1) := by decide +kernel
theorem dX11_told_11 : decode cX11_told 11 = .ok (.ireturn, 1) := by decide +kernel
theorem dX11_limited_0 : decode cX11_limited 0 = .ok (.lload_n 0, 1) := by decide +kernel
theorem dX11_limited_1 : decode cX11_limited 1 = .ok (.ldc2_w 226, 3) := by decide +kernel
theorem dX11_limited_4 : decode cX11_limited 4 = .ok (.lcmp, 1) := by decide +kernel
theorem dX11_limited_5 : decode cX11_limited 5 = .ok (.ifCond .le 9, 3) := by decide +kernel
theorem dX11_limited_8 : decode cX11_limited 8 = .ok (.ldc2_w 226, 3) := by decide +kernel
theorem dX11_limited_11 : decode cX11_limited 11 = .ok (.goto 18, 3) := by decide +kernel
theorem dX11_limited_14 : decode cX11_limited 14 = .ok (.lload_n 0, 1) := by decide +kernel
theorem dX11_limited_15 : decode cX11_limited 15 = .ok (.ldc2_w 228, 3) := by decide +kernel
theorem dX11_limited_18 : decode cX11_limited 18 = .ok (.lcmp, 1) := by decide +kernel
theorem dX11_limited_19 : decode cX11_limited 19 = .ok (.ifCond .ge 9, 3) := by decide +kernel
theorem dX11_limited_22 : decode cX11_limited 22 = .ok (.ldc2_w 228, 3) := by decide +kernel
theorem dX11_limited_25 : decode cX11_limited 25 = .ok (.goto 4, 3) := by decide +kernel
theorem dX11_limited_28 : decode cX11_limited 28 = .ok (.lload_n 0, 1) := by decide +kernel
theorem dX11_limited_29 : decode cX11_limited 29 = .ok (.lreturn, 1) := by decide +kernel
theorem dX11_operate_0 : decode cX11_operate 0 = .ok (.iload_n 0, 1) := by decide +kernel
theorem dX11_operate_1 : decode cX11_operate 1 = .ok (.iconst 5, 1) := by decide +kernel
theorem dX11_operate_2 : decode cX11_operate 2 = .ok (.if_icmp .ne 17, 3) := by decide +kernel
theorem dX11_operate_5 : decode cX11_operate 5 = .ok (.lload_n 3, 1) := by decide +kernel
theorem dX11_operate_6 : decode cX11_operate 6 = .ok (.lconst 0, 1) := by decide +kernel
theorem dX11_operate_7 : decode cX11_operate 7 = .ok (.lcmp, 1) := by decide +kernel
theorem dX11_operate_8 : decode cX11_operate 8 = .ok (.ifCond .ne 7, 3) := by decide +kernel
theorem dX11_operate_11 : decode cX11_operate 11 = .ok (.lconst 0, 1) := by decide +kernel
theorem dX11_operate_12 : decode cX11_operate 12 = .ok (.goto 6, 3) := by decide +kernel
theorem dX11_operate_15 : decode cX11_operate 15 = .ok (.lload_n 1, 1) := by decide +kernel
theorem dX11_operate_16 : decode cX11_operate 16 = .ok (.lload_n 3, 1) := by decide +kernel
theorem dX11_operate_17 : decode cX11_operate 17 = .ok (.ldiv, 1) := by decide +kernel
theorem dX11_operate_18 : decode cX11_operate 18 = .ok (.lreturn, 1) := by decide +kernel
theorem dX11_operate_19 : decode cX11_operate 19 = .ok (.iload_n 0, 1) := by decide +kernel
theorem dX11_operate_20 : decode cX11_operate 20 = .ok (.iconst 2, 1) := by decide +kernel
theorem dX11_operate_21 : decode cX11_operate 21 = .ok (.if_icmp .ne 9, 3) := by decide +kernel
theorem dX11_operate_24 : decode cX11_operate 24 = .ok (.lload_n 1, 1) := by decide +kernel
theorem dX11_operate_25 : decode cX11_operate 25 = .ok (.lload_n 3, 1) := by decide +kernel
theorem dX11_operate_26 : decode cX11_operate 26 = .ok (.ladd, 1) := by decide +kernel
theorem dX11_operate_27 : decode cX11_operate 27 = .ok (.goto 17, 3) := by decide +kernel
theorem dX11_operate_30 : decode cX11_operate 30 = .ok (.iload_n 0, 1) := by decide +kernel
theorem dX11_operate_31 : decode cX11_operate 31 = .ok (.iconst 3, 1) := by decide +kernel
theorem dX11_operate_32 : decode cX11_operate 32 = .ok (.if_icmp .ne 9, 3) := by decide +kernel
theorem dX11_operate_35 : decode cX11_operate 35 = .ok (.lload_n 1, 1) := by decide +kernel
theorem dX11_operate_36 : decode cX11_operate 36 = .ok (.lload_n 3, 1) := by decide +kernel
theorem dX11_operate_37 : decode cX11_operate 37 = .ok (.lsub, 1) := by decide +kernel
theorem dX11_operate_38 : decode cX11_operate 38 = .ok (.goto 6, 3) := by decide +kernel
theorem dX11_operate_41 : decode cX11_operate 41 = .ok (.lload_n 1, 1) := by decide +kernel
theorem dX11_operate_42 : decode cX11_operate 42 = .ok (.lload_n 3, 1) := by decide +kernel
theorem dX11_operate_43 : decode cX11_operate 43 = .ok (.lmul, 1) := by decide +kernel
theorem dX11_operate_44 : decode cX11_operate 44 = .ok (.invokestatic 230, 3) := by decide +kernel
theorem dX11_operate_47 : decode cX11_operate 47 = .ok (.lreturn, 1) := by decide +kernel
theorem dX11_visit_0 : decode cX11_visit 0 = .ok (.aload_n 0, 1) := by decide +kernel
theorem dX11_visit_1 : decode cX11_visit 1 = .ok (.getfield 17, 3) := by decide +kernel
theorem dX11_visit_4 : decode cX11_visit 4 = .ok (.bipush 6, 2) := by decide +kernel
theorem dX11_visit_6 : decode cX11_visit 6 = .ok (.iaload, 1) := by decide +kernel
theorem dX11_visit_7 : decode cX11_visit 7 = .ok (.ifCond .ne 6, 3) := by decide +kernel
theorem dX11_visit_10 : decode cX11_visit 10 = .ok (.bipush 10, 2) := by decide +kernel
theorem dX11_visit_12 : decode cX11_visit 12 = .ok (.ireturn, 1) := by decide +kernel
theorem dX11_visit_13 : decode cX11_visit 13 = .ok (.iconst 0, 1) := by decide +kernel
theorem dX11_visit_14 : decode cX11_visit 14 = .ok (.istore_n 3, 1) := by decide +kernel
theorem dX11_visit_15 : decode cX11_visit 15 = .ok (.iconst 0, 1) := by decide +kernel
theorem dX11_visit_16 : decode cX11_visit 16 = .ok (.istore 4, 2) := by decide +kernel
theorem dX11_visit_18 : decode cX11_visit 18 = .ok (.iload 4, 2) := by decide +kernel
theorem dX11_visit_20 : decode cX11_visit 20 = .ok (.aload_n 0, 1) := by decide +kernel
theorem dX11_visit_21 : decode cX11_visit 21 = .ok (.getfield 17, 3) := by decide +kernel
theorem dX11_visit_24 : decode cX11_visit 24 = .ok (.bipush 7, 2) := by decide +kernel
theorem dX11_visit_26 : decode cX11_visit 26 = .ok (.iaload, 1) := by decide +kernel
theorem dX11_visit_27 : decode cX11_visit 27 = .ok (.if_icmp .ge 141, 3) := by decide +kernel
theorem dX11_visit_30 : decode cX11_visit 30 = .ok (.aload_n 0, 1) := by decide +kernel
theorem dX11_visit_31 : decode cX11_visit 31 = .ok (.getfield 17, 3) := by decide +kernel
theorem dX11_visit_34 : decode cX11_visit 34 = .ok (.sipush 213, 3) := by decide +kernel
theorem dX11_visit_37 : decode cX11_visit 37 = .ok (.iload 4, 2) := by decide +kernel
theorem dX11_visit_39 : decode cX11_visit 39 = .ok (.iadd, 1) := by decide +kernel
theorem dX11_visit_40 : decode cX11_visit 40 = .ok (.iaload, 1) := by decide +kernel
theorem dX11_visit_41 : decode cX11_visit 41 = .ok (.istore 5, 2) := by decide +kernel
theorem dX11_visit_43 : decode cX11_visit 43 = .ok (.iload 5, 2) := by decide +kernel
theorem dX11_visit_45 : decode cX11_visit 45 = .ok (.iconst 1, 1) := by decide +kernel
theorem dX11_visit_46 : decode cX11_visit 46 = .ok (.if_icmp .gt 86, 3) := by decide +kernel
theorem dX11_visit_49 : decode cX11_visit 49 = .ok (.iinc 4 1, 3) := by decide +kernel
theorem dX11_visit_52 : decode cX11_visit 52 = .ok (.aload_n 0, 1) := by decide +kernel
theorem dX11_visit_53 : decode cX11_visit 53 = .ok (.getfield 17, 3) := by decide +kernel
theorem dX11_visit_56 : decode cX11_visit 56 = .ok (.sipush 213, 3) := by decide +kernel
theorem dX11_visit_59 : decode cX11_visit 59 = .ok (.iload 4, 2) := by decide +kernel
theorem dX11_visit_61 : decode cX11_visit 61 = .ok (.iadd, 1) := by decide +kernel
theorem dX11_visit_62 : decode cX11_visit 62 = .ok (.iaload, 1) := by decide +kernel
theorem dX11_visit_63 : decode cX11_visit 63 = .ok (.istore 6, 2) := by decide +kernel
theorem dX11_visit_65 : decode cX11_visit 65 = .ok (.aload_n 0, 1) := by decide +kernel
theorem dX11_visit_66 : decode cX11_visit 66 = .ok (.getfield 31, 3) := by decide +kernel
theorem dX11_visit_69 : decode cX11_visit 69 = .ok (.iload_n 3, 1) := by decide +kernel
theorem dX11_visit_70 : decode cX11_visit 70 = .ok (.iload 5, 2) := by decide +kernel
theorem dX11_visit_72 : decode cX11_visit 72 = .ok (.ifCond .ne 9, 3) := by decide +kernel
theorem dX11_visit_75 : decode cX11_visit 75 = .ok (.iload 6, 2) := by decide +kernel
theorem dX11_visit_77 : decode cX11_visit 77 = .ok (.i2l, 1) := by decide +kernel
theorem dX11_visit_78 : decode cX11_visit 78 = .ok (.goto 47, 3) := by decide +kernel
theorem dX11_visit_81 : decode cX11_visit 81 = .ok (.iload 6, 2) := by decide +kernel
theorem dX11_visit_83 : decode cX11_visit 83 = .ok (.ifCond .ne 18, 3) := by decide +kernel
theorem dX11_visit_86 : decode cX11_visit 86 = .ok (.aload_n 0, 1) := by decide +kernel
theorem dX11_visit_87 : decode cX11_visit 87 = .ok (.getfield 17, 3) := by decide +kernel
theorem dX11_visit_90 : decode cX11_visit 90 = .ok (.iload_n 1, 1) := by decide +kernel
theorem dX11_visit_91 : decode cX11_visit 91 = .ok (.invokestatic 165, 3) := by decide +kernel
theorem dX11_visit_94 : decode cX11_visit 94 = .ok (.iconst 3, 1) := by decide +kernel
theorem dX11_visit_95 : decode cX11_visit 95 = .ok (.iadd, 1) := by decide +kernel
theorem dX11_visit_96 : decode cX11_visit 96 = .ok (.iaload, 1) := by decide +kernel
theorem dX11_visit_97 : decode cX11_visit 97 = .ok (.i2l, 1) := by decide +kernel
theorem dX11_visit_98 : decode cX11_visit 98 = .ok (.goto 27, 3) := by decide +kernel
theorem dX11_visit_101 : decode cX11_visit 101 = .ok (.iload 6, 2) := by decide +kernel
theorem dX11_visit_103 : decode cX11_visit 103 = .ok (.iconst 1, 1) := by decide +kernel
theorem dX11_visit_104 : decode cX11_visit 104 = .ok (.if_icmp .ne 19, 3) := by decide +kernel
theorem dX11_visit_107 : decode cX11_visit 107 = .ok (.aload_n 0, 1) := by decide +kernel
theorem dX11_visit_108 : decode cX11_visit 108 = .ok (.getfield 17, 3) := by decide +kernel
theorem dX11_visit_111 : decode cX11_visit 111 = .ok (.iload_n 1, 1) := by decide +kernel
theorem dX11_visit_112 : decode cX11_visit 112 = .ok (.invokestatic 165, 3) := by decide +kernel
theorem dX11_visit_115 : decode cX11_visit 115 = .ok (.bipush 6, 2) := by decide +kernel
theorem dX11_visit_117 : decode cX11_visit 117 = .ok (.iadd, 1) := by decide +kernel
theorem dX11_visit_118 : decode cX11_visit 118 = .ok (.iaload, 1) := by decide +kernel
theorem dX11_visit_119 : decode cX11_visit 119 = .ok (.i2l, 1) := by decide +kernel
theorem dX11_visit_120 : decode cX11_visit 120 = .ok (.goto 5, 3) := by decide +kernel
theorem dX11_visit_123 : decode cX11_visit 123 = .ok (.iload_n 2, 1) := by decide +kernel
theorem dX11_visit_124 : decode cX11_visit 124 = .ok (.i2l, 1) := by decide +kernel
theorem dX11_visit_125 : decode cX11_visit 125 = .ok (.lastore, 1) := by decide +kernel
theorem dX11_visit_126 : decode cX11_visit 126 = .ok (.iinc 3 1, 3) := by decide +kernel
theorem dX11_visit_129 : decode cX11_visit 129 = .ok (.goto 33, 3) := by decide +kernel
theorem dX11_visit_132 : decode cX11_visit 132 = .ok (.iinc 3 (-1), 3) := by decide +kernel
theorem dX11_visit_135 : decode cX11_visit 135 = .ok (.aload_n 0, 1) := by decide +kernel
theorem dX11_visit_136 : decode cX11_visit 136 = .ok (.getfield 31, 3) := by decide +kernel
theorem dX11_visit_139 : decode cX11_visit 139 = .ok (.iload_n 3, 1) := by decide +kernel
theorem dX11_visit_140 : decode cX11_visit 140 = .ok (.iconst 1, 1) := by decide +kernel
theorem dX11_visit_141 : decode cX11_visit 141 = .ok (.isub, 1) := by decide +kernel
theorem dX11_visit_142 : decode cX11_visit 142 = .ok (.iload 5, 2) := by decide +kernel
theorem dX11_visit_144 : decode cX11_visit 144 = .ok (.aload_n 0, 1) := by decide +kernel
theorem dX11_visit_145 : decode cX11_visit 145 = .ok (.getfield 31, 3) := by decide +kernel
theorem dX11_visit_148 : decode cX11_visit 148 = .ok (.iload_n 3, 1) := by decide +kernel
theorem dX11_visit_149 : decode cX11_visit 149 = .ok (.iconst 1, 1) := by decide +kernel
theorem dX11_visit_150 : decode cX11_visit 150 = .ok (.isub, 1) := by decide +kernel
theorem dX11_visit_151 : decode cX11_visit 151 = .ok (.laload, 1) := by decide +kernel
theorem dX11_visit_152 : decode cX11_visit 152 = .ok (.aload_n 0, 1) := by decide +kernel
theorem dX11_visit_153 : decode cX11_visit 153 = .ok (.getfield 31, 3) := by decide +kernel
theorem dX11_visit_156 : decode cX11_visit 156 = .ok (.iload_n 3, 1) := by decide +kernel
theorem dX11_visit_157 : decode cX11_visit 157 = .ok (.laload, 1) := by decide +kernel
theorem dX11_visit_158 : decode cX11_visit 158 = .ok (.invokestatic 234, 3) := by decide +kernel
theorem dX11_visit_161 : decode cX11_visit 161 = .ok (.lastore, 1) := by decide +kernel
theorem dX11_visit_162 : decode cX11_visit 162 = .ok (.iinc 4 1, 3) := by decide +kernel
theorem dX11_visit_165 : decode cX11_visit 165 = .ok (.goto (-147), 3) := by decide +kernel
theorem dX11_visit_168 : decode cX11_visit 168 = .ok (.aload_n 0, 1) := by decide +kernel
theorem dX11_visit_169 : decode cX11_visit 169 = .ok (.getfield 31, 3) := by decide +kernel
theorem dX11_visit_172 : decode cX11_visit 172 = .ok (.iconst 0, 1) := by decide +kernel
theorem dX11_visit_173 : decode cX11_visit 173 = .ok (.laload, 1) := by decide +kernel
theorem dX11_visit_174 : decode cX11_visit 174 = .ok (.lconst 1, 1) := by decide +kernel
theorem dX11_visit_175 : decode cX11_visit 175 = .ok (.lcmp, 1) := by decide +kernel
theorem dX11_visit_176 : decode cX11_visit 176 = .ok (.ifCond .ge 7, 3) := by decide +kernel
theorem dX11_visit_179 : decode cX11_visit 179 = .ok (.iconst 1, 1) := by decide +kernel
theorem dX11_visit_180 : decode cX11_visit 180 = .ok (.goto 29, 3) := by decide +kernel
theorem dX11_visit_183 : decode cX11_visit 183 = .ok (.aload_n 0, 1) := by decide +kernel
theorem dX11_visit_184 : decode cX11_visit 184 = .ok (.getfield 31, 3) := by decide +kernel
theorem dX11_visit_187 : decode cX11_visit 187 = .ok (.iconst 0, 1) := by decide +kernel
theorem dX11_visit_188 : decode cX11_visit 188 = .ok (.laload, 1) := by decide +kernel
theorem dX11_visit_189 : decode cX11_visit 189 = .ok (.ldc2_w 238, 3) := by decide +kernel
theorem dX11_visit_192 : decode cX11_visit 192 = .ok (.lcmp, 1) := by decide +kernel
theorem dX11_visit_193 : decode cX11_visit 193 = .ok (.ifCond .le 9, 3) := by decide +kernel
theorem dX11_visit_196 : decode cX11_visit 196 = .ok (.sipush 240, 3) := by decide +kernel
theorem dX11_visit_199 : decode cX11_visit 199 = .ok (.goto 10, 3) := by decide +kernel
theorem dX11_visit_202 : decode cX11_visit 202 = .ok (.aload_n 0, 1) := by decide +kernel
theorem dX11_visit_203 : decode cX11_visit 203 = .ok (.getfield 31, 3) := by decide +kernel
theorem dX11_visit_206 : decode cX11_visit 206 = .ok (.iconst 0, 1) := by decide +kernel
theorem dX11_visit_207 : decode cX11_visit 207 = .ok (.laload, 1) := by decide +kernel
theorem dX11_visit_208 : decode cX11_visit 208 = .ok (.l2i, 1) := by decide +kernel
theorem dX11_visit_209 : decode cX11_visit 209 = .ok (.ireturn, 1) := by decide +kernel
theorem dX11_home_0 : decode cX11_home 0 = .ok (.iload_n 2, 1) := by decide +kernel
theorem dX11_home_1 : decode cX11_home 1 = .ok (.aload_n 0, 1) := by decide +kernel
theorem dX11_home_2 : decode cX11_home 2 = .ok (.getfield 17, 3) := by decide +kernel
theorem dX11_home_5 : decode cX11_home 5 = .ok (.iload_n 1, 1) := by decide +kernel
theorem dX11_home_6 : decode cX11_home 6 = .ok (.invokestatic 165, 3) := by decide +kernel
theorem dX11_home_9 : decode cX11_home 9 = .ok (.iconst 4, 1) := by decide +kernel
theorem dX11_home_10 : decode cX11_home 10 = .ok (.iadd, 1) := by decide +kernel
theorem dX11_home_11 : decode cX11_home 11 = .ok (.iaload, 1) := by decide +kernel
theorem dX11_home_12 : decode cX11_home 12 = .ok (.if_icmp .lt 22, 3) := by decide +kernel
theorem dX11_home_15 : decode cX11_home 15 = .ok (.iload_n 2, 1) := by decide +kernel
theorem dX11_home_16 : decode cX11_home 16 = .ok (.aload_n 0, 1) := by decide +kernel
theorem dX11_home_17 : decode cX11_home 17 = .ok (.getfield 17, 3) := by decide +kernel
theorem dX11_home_20 : decode cX11_home 20 = .ok (.iload_n 1, 1) := by decide +kernel
theorem dX11_home_21 : decode cX11_home 21 = .ok (.invokestatic 165, 3) := by decide +kernel
theorem dX11_home_24 : decode cX11_home 24 = .ok (.iconst 5, 1) := by decide +kernel
theorem dX11_home_25 : decode cX11_home 25 = .ok (.iadd, 1) := by decide +kernel
theorem dX11_home_26 : decode cX11_home 26 = .ok (.iaload, 1) := by decide +kernel
theorem dX11_home_27 : decode cX11_home 27 = .ok (.if_icmp .ge 7, 3) := by decide +kernel
theorem dX11_home_30 : decode cX11_home 30 = .ok (.iconst 1, 1) := by decide +kernel
theorem dX11_home_31 : decode cX11_home 31 = .ok (.goto 4, 3) := by decide +kernel
theorem dX11_home_34 : decode cX11_home 34 = .ok (.iconst 0, 1) := by decide +kernel
theorem dX11_home_35 : decode cX11_home 35 = .ok (.ireturn, 1) := by decide +kernel
theorem dX11_wayOf_0 : decode cX11_wayOf 0 = .ok (.aload_n 0, 1) := by decide +kernel
theorem dX11_wayOf_1 : decode cX11_wayOf 1 = .ok (.getfield 38, 3) := by decide +kernel
theorem dX11_wayOf_4 : decode cX11_wayOf 4 = .ok (.iload_n 1, 1) := by decide +kernel
theorem dX11_wayOf_5 : decode cX11_wayOf 5 = .ok (.iaload, 1) := by decide +kernel
theorem dX11_wayOf_6 : decode cX11_wayOf 6 = .ok (.ifCond .ge 20, 3) := by decide +kernel
theorem dX11_wayOf_9 : decode cX11_wayOf 9 = .ok (.aload_n 0, 1) := by decide +kernel
theorem dX11_wayOf_10 : decode cX11_wayOf 10 = .ok (.aload_n 0, 1) := by decide +kernel
theorem dX11_wayOf_11 : decode cX11_wayOf 11 = .ok (.getfield 17, 3) := by decide +kernel
theorem dX11_wayOf_14 : decode cX11_wayOf 14 = .ok (.iload_n 1, 1) := by decide +kernel
theorem dX11_wayOf_15 : decode cX11_wayOf 15 = .ok (.invokestatic 168, 3) := by decide +kernel
theorem dX11_wayOf_18 : decode cX11_wayOf 18 = .ok (.iaload, 1) := by decide +kernel
theorem dX11_wayOf_19 : decode cX11_wayOf 19 = .ok (.iload_n 2, 1) := by decide +kernel
theorem dX11_wayOf_20 : decode cX11_wayOf 20 = .ok (.invokevirtual 223, 3) := by decide +kernel
theorem dX11_wayOf_23 : decode cX11_wayOf 23 = .ok (.goto 14, 3) := by decide +kernel
theorem dX11_wayOf_26 : decode cX11_wayOf 26 = .ok (.aload_n 0, 1) := by decide +kernel
theorem dX11_wayOf_27 : decode cX11_wayOf 27 = .ok (.aload_n 0, 1) := by decide +kernel
theorem dX11_wayOf_28 : decode cX11_wayOf 28 = .ok (.getfield 38, 3) := by decide +kernel
theorem dX11_wayOf_31 : decode cX11_wayOf 31 = .ok (.iload_n 1, 1) := by decide +kernel
theorem dX11_wayOf_32 : decode cX11_wayOf 32 = .ok (.iaload, 1) := by decide +kernel
theorem dX11_wayOf_33 : decode cX11_wayOf 33 = .ok (.iload_n 2, 1) := by decide +kernel
theorem dX11_wayOf_34 : decode cX11_wayOf 34 = .ok (.invokevirtual 240, 3) := by decide +kernel
theorem dX11_wayOf_37 : decode cX11_wayOf 37 = .ok (.ireturn, 1) := by decide +kernel
theorem dX11_nextHouse_0 : decode cX11_nextHouse 0 = .ok (.aload_n 0, 1) := by decide +kernel
theorem dX11_nextHouse_1 : decode cX11_nextHouse 1 = .ok (.getfield 17, 3) := by decide +kernel
theorem dX11_nextHouse_4 : decode cX11_nextHouse 4 = .ok (.iload_n 1, 1) := by decide +kernel
theorem dX11_nextHouse_5 : decode cX11_nextHouse 5 = .ok (.invokestatic 168, 3) := by decide +kernel
theorem dX11_nextHouse_8 : decode cX11_nextHouse 8 = .ok (.iconst 3, 1) := by decide +kernel
theorem dX11_nextHouse_9 : decode cX11_nextHouse 9 = .ok (.iadd, 1) := by decide +kernel
theorem dX11_nextHouse_10 : decode cX11_nextHouse 10 = .ok (.aload_n 0, 1) := by decide +kernel
theorem dX11_nextHouse_11 : decode cX11_nextHouse 11 = .ok (.getfield 41, 3) := by decide +kernel
theorem dX11_nextHouse_14 : decode cX11_nextHouse 14 = .ok (.iload_n 1, 1) := by decide +kernel
theorem dX11_nextHouse_15 : decode cX11_nextHouse 15 = .ok (.iaload, 1) := by decide +kernel
theorem dX11_nextHouse_16 : decode cX11_nextHouse 16 = .ok (.iadd, 1) := by decide +kernel
theorem dX11_nextHouse_17 : decode cX11_nextHouse 17 = .ok (.iaload, 1) := by decide +kernel
theorem dX11_nextHouse_18 : decode cX11_nextHouse 18 = .ok (.ireturn, 1) := by decide +kernel
theorem dX11_nextArrival_0 : decode cX11_nextArrival 0 = .ok (.aload_n 0, 1) := by decide +kernel
theorem dX11_nextArrival_1 : decode cX11_nextArrival 1 = .ok (.iload_n 1, 1) := by decide +kernel
theorem dX11_nextArrival_2 : decode cX11_nextArrival 2 = .ok (.aload_n 0, 1) := by decide +kernel
theorem dX11_nextArrival_3 : decode cX11_nextArrival 3 = .ok (.iload_n 1, 1) := by decide +kernel
theorem dX11_nextArrival_4 : decode cX11_nextArrival 4 = .ok (.invokevirtual 243, 3) := by decide +kernel
theorem dX11_nextArrival_7 : decode cX11_nextArrival 7 = .ok (.invokevirtual 246, 3) := by decide +kernel
theorem dX11_nextArrival_10 : decode cX11_nextArrival 10 = .ok (.istore_n 2, 1) := by decide +kernel
theorem dX11_nextArrival_11 : decode cX11_nextArrival 11 = .ok (.aload_n 0, 1) := by decide +kernel
theorem dX11_nextArrival_12 : decode cX11_nextArrival 12 = .ok (.getfield 35, 3) := by decide +kernel
theorem dX11_nextArrival_15 : decode cX11_nextArrival 15 = .ok (.iload_n 1, 1) := by decide +kernel
theorem dX11_nextArrival_16 : decode cX11_nextArrival 16 = .ok (.iaload, 1) := by decide +kernel
theorem dX11_nextArrival_17 : decode cX11_nextArrival 17 = .ok (.iload_n 2, 1) := by decide +kernel
theorem dX11_nextArrival_18 : decode cX11_nextArrival 18 = .ok (.ldc 125, 2) := by decide +kernel
theorem dX11_nextArrival_20 : decode cX11_nextArrival 20 = .ok (.if_icmp .lt 7, 3) := by decide +kernel
theorem dX11_nextArrival_23 : decode cX11_nextArrival 23 = .ok (.iconst 0, 1) := by decide +kernel
theorem dX11_nextArrival_24 : decode cX11_nextArrival 24 = .ok (.goto 4, 3) := by decide +kernel
theorem dX11_nextArrival_27 : decode cX11_nextArrival 27 = .ok (.iload_n 2, 1) := by decide +kernel
theorem dX11_nextArrival_28 : decode cX11_nextArrival 28 = .ok (.iadd, 1) := by decide +kernel
theorem dX11_nextArrival_29 : decode cX11_nextArrival 29 = .ok (.ireturn, 1) := by decide +kernel
theorem dX11_simulate_0 : decode cX11_simulate 0 = .ok (.aload_n 0, 1) := by decide +kernel
theorem dX11_simulate_1 : decode cX11_simulate 1 = .ok (.invokevirtual 249, 3) := by decide +kernel
theorem dX11_simulate_4 : decode cX11_simulate 4 = .ok (.aload_n 0, 1) := by decide +kernel
theorem dX11_simulate_5 : decode cX11_simulate 5 = .ok (.iconst 0, 1) := by decide +kernel
theorem dX11_simulate_6 : decode cX11_simulate 6 = .ok (.putfield 252, 3) := by decide +kernel
theorem dX11_simulate_9 : decode cX11_simulate 9 = .ok (.iconst 0, 1) := by decide +kernel
theorem dX11_simulate_10 : decode cX11_simulate 10 = .ok (.istore_n 1, 1) := by decide +kernel
theorem dX11_simulate_11 : decode cX11_simulate 11 = .ok (.iload_n 1, 1) := by decide +kernel
theorem dX11_simulate_12 : decode cX11_simulate 12 = .ok (.bipush 16, 2) := by decide +kernel
theorem dX11_simulate_14 : decode cX11_simulate 14 = .ok (.if_icmp .ge 16, 3) := by decide +kernel
theorem dX11_simulate_17 : decode cX11_simulate 17 = .ok (.aload_n 0, 1) := by decide +kernel
theorem dX11_simulate_18 : decode cX11_simulate 18 = .ok (.getfield 50, 3) := by decide +kernel
theorem dX11_simulate_21 : decode cX11_simulate 21 = .ok (.iload_n 1, 1) := by decide +kernel
theorem dX11_simulate_22 : decode cX11_simulate 22 = .ok (.iconst 0, 1) := by decide +kernel
theorem dX11_simulate_23 : decode cX11_simulate 23 = .ok (.iastore, 1) := by decide +kernel
theorem dX11_simulate_24 : decode cX11_simulate 24 = .ok (.iinc 1 1, 3) := by decide +kernel
theorem dX11_simulate_27 : decode cX11_simulate 27 = .ok (.goto (-16), 3) := by decide +kernel
theorem dX11_simulate_30 : decode cX11_simulate 30 = .ok (.iconst 0, 1) := by decide +kernel
theorem dX11_simulate_31 : decode cX11_simulate 31 = .ok (.istore_n 1, 1) := by decide +kernel
theorem dX11_simulate_32 : decode cX11_simulate 32 = .ok (.iload_n 1, 1) := by decide +kernel
theorem dX11_simulate_33 : decode cX11_simulate 33 = .ok (.aload_n 0, 1) := by decide +kernel
theorem dX11_simulate_34 : decode cX11_simulate 34 = .ok (.getfield 17, 3) := by decide +kernel
theorem dX11_simulate_37 : decode cX11_simulate 37 = .ok (.iconst 3, 1) := by decide +kernel
theorem dX11_simulate_38 : decode cX11_simulate 38 = .ok (.iaload, 1) := by decide +kernel
theorem dX11_simulate_39 : decode cX11_simulate 39 = .ok (.if_icmp .ge 40, 3) := by decide +kernel
theorem dX11_simulate_42 : decode cX11_simulate 42 = .ok (.aload_n 0, 1) := by decide +kernel
theorem dX11_simulate_43 : decode cX11_simulate 43 = .ok (.getfield 35, 3) := by decide +kernel
theorem dX11_simulate_46 : decode cX11_simulate 46 = .ok (.iload_n 1, 1) := by decide +kernel
theorem dX11_simulate_47 : decode cX11_simulate 47 = .ok (.aload_n 0, 1) := by decide +kernel
theorem dX11_simulate_48 : decode cX11_simulate 48 = .ok (.getfield 17, 3) := by decide +kernel
theorem dX11_simulate_51 : decode cX11_simulate 51 = .ok (.iload_n 1, 1) := by decide +kernel
theorem dX11_simulate_52 : decode cX11_simulate 52 = .ok (.invokestatic 168, 3) := by decide +kernel
theorem dX11_simulate_55 : decode cX11_simulate 55 = .ok (.iconst 1, 1) := by decide +kernel
theorem dX11_simulate_56 : decode cX11_simulate 56 = .ok (.iadd, 1) := by decide +kernel
theorem dX11_simulate_57 : decode cX11_simulate 57 = .ok (.iaload, 1) := by decide +kernel
theorem dX11_simulate_58 : decode cX11_simulate 58 = .ok (.iastore, 1) := by decide +kernel
theorem dX11_simulate_59 : decode cX11_simulate 59 = .ok (.aload_n 0, 1) := by decide +kernel
theorem dX11_simulate_60 : decode cX11_simulate 60 = .ok (.getfield 38, 3) := by decide +kernel
theorem dX11_simulate_63 : decode cX11_simulate 63 = .ok (.iload_n 1, 1) := by decide +kernel
theorem dX11_simulate_64 : decode cX11_simulate 64 = .ok (.iconst (-1), 1) := by decide +kernel
theorem dX11_simulate_65 : decode cX11_simulate 65 = .ok (.iastore, 1) := by decide +kernel
theorem dX11_simulate_66 : decode cX11_simulate 66 = .ok (.aload_n 0, 1) := by decide +kernel
theorem dX11_simulate_67 : decode cX11_simulate 67 = .ok (.getfield 41, 3) := by decide +kernel
theorem dX11_simulate_70 : decode cX11_simulate 70 = .ok (.iload_n 1, 1) := by decide +kernel
theorem dX11_simulate_71 : decode cX11_simulate 71 = .ok (.iconst 0, 1) := by decide +kernel
theorem dX11_simulate_72 : decode cX11_simulate 72 = .ok (.iastore, 1) := by decide +kernel
theorem dX11_simulate_73 : decode cX11_simulate 73 = .ok (.iinc 1 1, 3) := by decide +kernel
theorem dX11_simulate_76 : decode cX11_simulate 76 = .ok (.goto (-44), 3) := by decide +kernel
theorem dX11_simulate_79 : decode cX11_simulate 79 = .ok (.aload_n 0, 1) := by decide +kernel
theorem dX11_simulate_80 : decode cX11_simulate 80 = .ok (.invokevirtual 255, 3) := by decide +kernel
theorem dX11_simulate_83 : decode cX11_simulate 83 = .ok (.istore_n 1, 1) := by decide +kernel
theorem dX11_simulate_84 : decode cX11_simulate 84 = .ok (.iload_n 1, 1) := by decide +kernel
theorem dX11_simulate_85 : decode cX11_simulate 85 = .ok (.ifCond .lt 16, 3) := by decide +kernel
theorem dX11_simulate_88 : decode cX11_simulate 88 = .ok (.aload_n 0, 1) := by decide +kernel
theorem dX11_simulate_89 : decode cX11_simulate 89 = .ok (.iload_n 1, 1) := by decide +kernel
theorem dX11_simulate_90 : decode cX11_simulate 90 = .ok (.invokevirtual 258, 3) := by decide +kernel
theorem dX11_simulate_93 : decode cX11_simulate 93 = .ok (.aload_n 0, 1) := by decide +kernel
theorem dX11_simulate_94 : decode cX11_simulate 94 = .ok (.invokevirtual 255, 3) := by decide +kernel
theorem dX11_simulate_97 : decode cX11_simulate 97 = .ok (.istore_n 1, 1) := by decide +kernel
theorem dX11_simulate_98 : decode cX11_simulate 98 = .ok (.goto (-14), 3) := by decide +kernel
theorem dX11_simulate_101 : decode cX11_simulate 101 = .ok (.return_, 1) := by decide +kernel
theorem dX11_nextWalker_0 : decode cX11_nextWalker 0 = .ok (.iconst (-1), 1) := by decide +kernel
theorem dX11_nextWalker_1 : decode cX11_nextWalker 1 = .ok (.istore_n 1, 1) := by decide +kernel
theorem dX11_nextWalker_2 : decode cX11_nextWalker 2 = .ok (.aload_n 0, 1) := by decide +kernel
theorem dX11_nextWalker_3 : decode cX11_nextWalker 3 = .ok (.getfield 17, 3) := by decide +kernel
theorem dX11_nextWalker_6 : decode cX11_nextWalker 6 = .ok (.iconst 3, 1) := by decide +kernel
theorem dX11_nextWalker_7 : decode cX11_nextWalker 7 = .ok (.iaload, 1) := by decide +kernel
theorem dX11_nextWalker_8 : decode cX11_nextWalker 8 = .ok (.iconst 1, 1) := by decide +kernel
theorem dX11_nextWalker_9 : decode cX11_nextWalker 9 = .ok (.isub, 1) := by decide +kernel
theorem dX11_nextWalker_10 : decode cX11_nextWalker 10 = .ok (.istore_n 2, 1) := by decide +kernel
theorem dX11_nextWalker_11 : decode cX11_nextWalker 11 = .ok (.iload_n 2, 1) := by decide +kernel
theorem dX11_nextWalker_12 : decode cX11_nextWalker 12 = .ok (.ifCond .lt 48, 3) := by decide +kernel
theorem dX11_nextWalker_15 : decode cX11_nextWalker 15 = .ok (.aload_n 0, 1) := by decide +kernel
theorem dX11_nextWalker_16 : decode cX11_nextWalker 16 = .ok (.getfield 41, 3) := by decide +kernel
theorem dX11_nextWalker_19 : decode cX11_nextWalker 19 = .ok (.iload_n 2, 1) := by decide +kernel
theorem dX11_nextWalker_20 : decode cX11_nextWalker 20 = .ok (.iaload, 1) := by decide +kernel
theorem dX11_nextWalker_21 : decode cX11_nextWalker 21 = .ok (.aload_n 0, 1) := by decide +kernel
theorem dX11_nextWalker_22 : decode cX11_nextWalker 22 = .ok (.getfield 17, 3) := by decide +kernel
theorem dX11_nextWalker_25 : decode cX11_nextWalker 25 = .ok (.iload_n 2, 1) := by decide +kernel
theorem dX11_nextWalker_26 : decode cX11_nextWalker 26 = .ok (.invokestatic 168, 3) := by decide +kernel
theorem dX11_nextWalker_29 : decode cX11_nextWalker 29 = .ok (.iconst 2, 1) := by decide +kernel
theorem dX11_nextWalker_30 : decode cX11_nextWalker 30 = .ok (.iadd, 1) := by decide +kernel
theorem dX11_nextWalker_31 : decode cX11_nextWalker 31 = .ok (.iaload, 1) := by decide +kernel
theorem dX11_nextWalker_32 : decode cX11_nextWalker 32 = .ok (.if_icmp .ge 22, 3) := by decide +kernel
theorem dX11_nextWalker_35 : decode cX11_nextWalker 35 = .ok (.iload_n 1, 1) := by decide +kernel
theorem dX11_nextWalker_36 : decode cX11_nextWalker 36 = .ok (.ifCond .lt 16, 3) := by decide +kernel
theorem dX11_nextWalker_39 : decode cX11_nextWalker 39 = .ok (.aload_n 0, 1) := by decide +kernel
theorem dX11_nextWalker_40 : decode cX11_nextWalker 40 = .ok (.iload_n 2, 1) := by decide +kernel
theorem dX11_nextWalker_41 : decode cX11_nextWalker 41 = .ok (.invokevirtual 261, 3) := by decide +kernel
theorem dX11_nextWalker_44 : decode cX11_nextWalker 44 = .ok (.aload_n 0, 1) := by decide +kernel
theorem dX11_nextWalker_45 : decode cX11_nextWalker 45 = .ok (.iload_n 1, 1) := by decide +kernel
theorem dX11_nextWalker_46 : decode cX11_nextWalker 46 = .ok (.invokevirtual 261, 3) := by decide +kernel
theorem dX11_nextWalker_49 : decode cX11_nextWalker 49 = .ok (.if_icmp .gt 5, 3) := by decide +kernel
theorem dX11_nextWalker_52 : decode cX11_nextWalker 52 = .ok (.iload_n 2, 1) := by decide +kernel
theorem dX11_nextWalker_53 : decode cX11_nextWalker 53 = .ok (.istore_n 1, 1) := by decide +kernel
theorem dX11_nextWalker_54 : decode cX11_nextWalker 54 = .ok (.iinc 2 (-1), 3) := by decide +kernel
theorem dX11_nextWalker_57 : decode cX11_nextWalker 57 = .ok (.goto (-46), 3) := by decide +kernel
theorem dX11_nextWalker_60 : decode cX11_nextWalker 60 = .ok (.iload_n 1, 1) := by decide +kernel
theorem dX11_nextWalker_61 : decode cX11_nextWalker 61 = .ok (.ireturn, 1) := by decide +kernel
theorem dX11_go_0 : decode cX11_go 0 = .ok (.aload_n 0, 1) := by decide +kernel
theorem dX11_go_1 : decode cX11_go 1 = .ok (.iload_n 1, 1) := by decide +kernel
theorem dX11_go_2 : decode cX11_go 2 = .ok (.invokevirtual 243, 3) := by decide +kernel
theorem dX11_go_5 : decode cX11_go 5 = .ok (.istore_n 2, 1) := by decide +kernel
theorem dX11_go_6 : decode cX11_go 6 = .ok (.aload_n 0, 1) := by decide +kernel
theorem dX11_go_7 : decode cX11_go 7 = .ok (.iload_n 1, 1) := by decide +kernel
theorem dX11_go_8 : decode cX11_go 8 = .ok (.invokevirtual 261, 3) := by decide +kernel
theorem dX11_go_11 : decode cX11_go 11 = .ok (.istore_n 3, 1) := by decide +kernel
theorem dX11_go_12 : decode cX11_go 12 = .ok (.bipush 12, 2) := by decide +kernel
theorem dX11_go_14 : decode cX11_go 14 = .ok (.iload_n 1, 1) := by decide +kernel
theorem dX11_go_15 : decode cX11_go 15 = .ok (.imul, 1) := by decide +kernel
theorem dX11_go_16 : decode cX11_go 16 = .ok (.aload_n 0, 1) := by decide +kernel
theorem dX11_go_17 : decode cX11_go 17 = .ok (.getfield 41, 3) := by decide +kernel
theorem dX11_go_20 : decode cX11_go 20 = .ok (.iload_n 1, 1) := by decide +kernel
theorem dX11_go_21 : decode cX11_go 21 = .ok (.iaload, 1) := by decide +kernel
theorem dX11_go_22 : decode cX11_go 22 = .ok (.iadd, 1) := by decide +kernel
theorem dX11_go_23 : decode cX11_go 23 = .ok (.istore 4, 2) := by decide +kernel
theorem dX11_go_25 : decode cX11_go 25 = .ok (.aload_n 0, 1) := by decide +kernel
theorem dX11_go_26 : decode cX11_go 26 = .ok (.iload_n 1, 1) := by decide +kernel
theorem dX11_go_27 : decode cX11_go 27 = .ok (.iload_n 2, 1) := by decide +kernel
theorem dX11_go_28 : decode cX11_go 28 = .ok (.invokevirtual 246, 3) := by decide +kernel
theorem dX11_go_31 : decode cX11_go 31 = .ok (.ldc 125, 2) := by decide +kernel
theorem dX11_go_33 : decode cX11_go 33 = .ok (.if_icmp .ge 7, 3) := by decide +kernel
theorem dX11_go_36 : decode cX11_go 36 = .ok (.iconst 1, 1) := by decide +kernel
theorem dX11_go_37 : decode cX11_go 37 = .ok (.goto 4, 3) := by decide +kernel
theorem dX11_go_40 : decode cX11_go 40 = .ok (.iconst 0, 1) := by decide +kernel
theorem dX11_go_41 : decode cX11_go 41 = .ok (.istore 5, 2) := by decide +kernel
theorem dX11_go_43 : decode cX11_go 43 = .ok (.aload_n 0, 1) := by decide +kernel
theorem dX11_go_44 : decode cX11_go 44 = .ok (.getfield 41, 3) := by decide +kernel
theorem dX11_go_47 : decode cX11_go 47 = .ok (.iload_n 1, 1) := by decide +kernel
theorem dX11_go_48 : decode cX11_go 48 = .ok (.dup2, 1) := by decide +kernel
theorem dX11_go_49 : decode cX11_go 49 = .ok (.iaload, 1) := by decide +kernel
theorem dX11_go_50 : decode cX11_go 50 = .ok (.iconst 1, 1) := by decide +kernel
theorem dX11_go_51 : decode cX11_go 51 = .ok (.iadd, 1) := by decide +kernel
theorem dX11_go_52 : decode cX11_go 52 = .ok (.iastore, 1) := by decide +kernel
theorem dX11_go_53 : decode cX11_go 53 = .ok (.aload_n 0, 1) := by decide +kernel
theorem dX11_go_54 : decode cX11_go 54 = .ok (.getfield 47, 3) := by decide +kernel
theorem dX11_go_57 : decode cX11_go 57 = .ok (.iload 4, 2) := by decide +kernel
theorem dX11_go_59 : decode cX11_go 59 = .ok (.iload_n 3, 1) := by decide +kernel
theorem dX11_go_60 : decode cX11_go 60 = .ok (.iastore, 1) := by decide +kernel
theorem dX11_go_61 : decode cX11_go 61 = .ok (.aload_n 0, 1) := by decide +kernel
theorem dX11_go_62 : decode cX11_go 62 = .ok (.getfield 44, 3) := by decide +kernel
theorem dX11_go_65 : decode cX11_go 65 = .ok (.iload 4, 2) := by decide +kernel
theorem dX11_go_67 : decode cX11_go 67 = .ok (.iconst 4, 1) := by decide +kernel
theorem dX11_go_68 : decode cX11_go 68 = .ok (.iastore, 1) := by decide +kernel
theorem dX11_go_69 : decode cX11_go 69 = .ok (.iload 5, 2) := by decide +kernel
theorem dX11_go_71 : decode cX11_go 71 = .ok (.ifCond .ne 4, 3) := by decide +kernel
theorem dX11_go_74 : decode cX11_go 74 = .ok (.return_, 1) := by decide +kernel
theorem dX11_go_75 : decode cX11_go 75 = .ok (.aload_n 0, 1) := by decide +kernel
theorem dX11_go_76 : decode cX11_go 76 = .ok (.getfield 35, 3) := by decide +kernel
theorem dX11_go_79 : decode cX11_go 79 = .ok (.iload_n 1, 1) := by decide +kernel
theorem dX11_go_80 : decode cX11_go 80 = .ok (.iload_n 3, 1) := by decide +kernel
theorem dX11_go_81 : decode cX11_go 81 = .ok (.iastore, 1) := by decide +kernel
theorem dX11_go_82 : decode cX11_go 82 = .ok (.aload_n 0, 1) := by decide +kernel
theorem dX11_go_83 : decode cX11_go 83 = .ok (.getfield 38, 3) := by decide +kernel
theorem dX11_go_86 : decode cX11_go 86 = .ok (.iload_n 1, 1) := by decide +kernel
theorem dX11_go_87 : decode cX11_go 87 = .ok (.iload_n 2, 1) := by decide +kernel
theorem dX11_go_88 : decode cX11_go 88 = .ok (.iastore, 1) := by decide +kernel
theorem dX11_go_89 : decode cX11_go 89 = .ok (.aload_n 0, 1) := by decide +kernel
theorem dX11_go_90 : decode cX11_go 90 = .ok (.getfield 44, 3) := by decide +kernel
theorem dX11_go_93 : decode cX11_go 93 = .ok (.iload 4, 2) := by decide +kernel
theorem dX11_go_95 : decode cX11_go 95 = .ok (.aload_n 0, 1) := by decide +kernel
theorem dX11_go_96 : decode cX11_go 96 = .ok (.getfield 252, 3) := by decide +kernel
theorem dX11_go_99 : decode cX11_go 99 = .ok (.iload_n 2, 1) := by decide +kernel
theorem dX11_go_100 : decode cX11_go 100 = .ok (.ishr, 1) := by decide +kernel
theorem dX11_go_101 : decode cX11_go 101 = .ok (.iconst 1, 1) := by decide +kernel
theorem dX11_go_102 : decode cX11_go 102 = .ok (.iand, 1) := by decide +kernel
theorem dX11_go_103 : decode cX11_go 103 = .ok (.iconst 1, 1) := by decide +kernel
theorem dX11_go_104 : decode cX11_go 104 = .ok (.if_icmp .ne 7, 3) := by decide +kernel
theorem dX11_go_107 : decode cX11_go 107 = .ok (.iconst 2, 1) := by decide +kernel
theorem dX11_go_108 : decode cX11_go 108 = .ok (.goto 4, 3) := by decide +kernel
theorem dX11_go_111 : decode cX11_go 111 = .ok (.iconst 3, 1) := by decide +kernel
theorem dX11_go_112 : decode cX11_go 112 = .ok (.iastore, 1) := by decide +kernel
theorem dX11_go_113 : decode cX11_go 113 = .ok (.aload_n 0, 1) := by decide +kernel
theorem dX11_go_114 : decode cX11_go 114 = .ok (.getfield 44, 3) := by decide +kernel
theorem dX11_go_117 : decode cX11_go 117 = .ok (.iload 4, 2) := by decide +kernel
theorem dX11_go_119 : decode cX11_go 119 = .ok (.iaload, 1) := by decide +kernel
theorem dX11_go_120 : decode cX11_go 120 = .ok (.iconst 2, 1) := by decide +kernel
theorem dX11_go_121 : decode cX11_go 121 = .ok (.if_icmp .eq 40, 3) := by decide +kernel
theorem dX11_go_124 : decode cX11_go 124 = .ok (.aload_n 0, 1) := by decide +kernel
theorem dX11_go_125 : decode cX11_go 125 = .ok (.getfield 50, 3) := by decide +kernel
theorem dX11_go_128 : decode cX11_go 128 = .ok (.iload_n 2, 1) := by decide +kernel
theorem dX11_go_129 : decode cX11_go 129 = .ok (.iaload, 1) := by decide +kernel
theorem dX11_go_130 : decode cX11_go 130 = .ok (.iconst 2, 1) := by decide +kernel
theorem dX11_go_131 : decode cX11_go 131 = .ok (.if_icmp .eq 30, 3) := by decide +kernel
theorem dX11_go_134 : decode cX11_go 134 = .ok (.aload_n 0, 1) := by decide +kernel
theorem dX11_go_135 : decode cX11_go 135 = .ok (.getfield 50, 3) := by decide +kernel
theorem dX11_go_138 : decode cX11_go 138 = .ok (.iload_n 2, 1) := by decide +kernel
theorem dX11_go_139 : decode cX11_go 139 = .ok (.iaload, 1) := by decide +kernel
theorem dX11_go_140 : decode cX11_go 140 = .ok (.iconst 1, 1) := by decide +kernel
theorem dX11_go_141 : decode cX11_go 141 = .ok (.if_icmp .ne 21, 3) := by decide +kernel
theorem dX11_go_144 : decode cX11_go 144 = .ok (.aload_n 0, 1) := by decide +kernel
theorem dX11_go_145 : decode cX11_go 145 = .ok (.getfield 53, 3) := by decide +kernel
theorem dX11_go_148 : decode cX11_go 148 = .ok (.iload_n 2, 1) := by decide +kernel
theorem dX11_go_149 : decode cX11_go 149 = .ok (.iaload, 1) := by decide +kernel
theorem dX11_go_150 : decode cX11_go 150 = .ok (.iload_n 3, 1) := by decide +kernel
theorem dX11_go_151 : decode cX11_go 151 = .ok (.aload_n 0, 1) := by decide +kernel
theorem dX11_go_152 : decode cX11_go 152 = .ok (.getfield 17, 3) := by decide +kernel
theorem dX11_go_155 : decode cX11_go 155 = .ok (.iconst 5, 1) := by decide +kernel
theorem dX11_go_156 : decode cX11_go 156 = .ok (.iaload, 1) := by decide +kernel
theorem dX11_go_157 : decode cX11_go 157 = .ok (.isub, 1) := by decide +kernel
theorem dX11_go_158 : decode cX11_go 158 = .ok (.if_icmp .le 4, 3) := by decide +kernel
theorem dX11_go_161 : decode cX11_go 161 = .ok (.return_, 1) := by decide +kernel
theorem dX11_go_162 : decode cX11_go 162 = .ok (.aload_n 0, 1) := by decide +kernel
theorem dX11_go_163 : decode cX11_go 163 = .ok (.getfield 50, 3) := by decide +kernel
theorem dX11_go_166 : decode cX11_go 166 = .ok (.iload_n 2, 1) := by decide +kernel
theorem dX11_go_167 : decode cX11_go 167 = .ok (.dup2, 1) := by decide +kernel
theorem dX11_go_168 : decode cX11_go 168 = .ok (.iaload, 1) := by decide +kernel
theorem dX11_go_169 : decode cX11_go 169 = .ok (.iconst 1, 1) := by decide +kernel
theorem dX11_go_170 : decode cX11_go 170 = .ok (.iadd, 1) := by decide +kernel
theorem dX11_go_171 : decode cX11_go 171 = .ok (.iastore, 1) := by decide +kernel
theorem dX11_go_172 : decode cX11_go 172 = .ok (.aload_n 0, 1) := by decide +kernel
theorem dX11_go_173 : decode cX11_go 173 = .ok (.getfield 53, 3) := by decide +kernel
theorem dX11_go_176 : decode cX11_go 176 = .ok (.iload_n 2, 1) := by decide +kernel
theorem dX11_go_177 : decode cX11_go 177 = .ok (.iload_n 3, 1) := by decide +kernel
theorem dX11_go_178 : decode cX11_go 178 = .ok (.iastore, 1) := by decide +kernel
theorem dX11_go_179 : decode cX11_go 179 = .ok (.aload_n 0, 1) := by decide +kernel
theorem dX11_go_180 : decode cX11_go 180 = .ok (.iload_n 2, 1) := by decide +kernel
theorem dX11_go_181 : decode cX11_go 181 = .ok (.iload_n 3, 1) := by decide +kernel
theorem dX11_go_182 : decode cX11_go 182 = .ok (.invokevirtual 264, 3) := by decide +kernel
theorem dX11_go_185 : decode cX11_go 185 = .ok (.istore 6, 2) := by decide +kernel
theorem dX11_go_187 : decode cX11_go 187 = .ok (.aload_n 0, 1) := by decide +kernel
theorem dX11_go_188 : decode cX11_go 188 = .ok (.getfield 44, 3) := by decide +kernel
theorem dX11_go_191 : decode cX11_go 191 = .ok (.iload 4, 2) := by decide +kernel
theorem dX11_go_193 : decode cX11_go 193 = .ok (.iload 6, 2) := by decide +kernel
theorem dX11_go_195 : decode cX11_go 195 = .ok (.ifCond .eq 7, 3) := by decide +kernel
theorem dX11_go_198 : decode cX11_go 198 = .ok (.iconst 0, 1) := by decide +kernel
theorem dX11_go_199 : decode cX11_go 199 = .ok (.goto 4, 3) := by decide +kernel
theorem dX11_go_202 : decode cX11_go 202 = .ok (.iconst 1, 1) := by decide +kernel
theorem dX11_go_203 : decode cX11_go 203 = .ok (.iastore, 1) := by decide +kernel
theorem dX11_go_204 : decode cX11_go 204 = .ok (.aload_n 0, 1) := by decide +kernel
theorem dX11_go_205 : decode cX11_go 205 = .ok (.getfield 35, 3) := by decide +kernel
theorem dX11_go_208 : decode cX11_go 208 = .ok (.iload_n 1, 1) := by decide +kernel
theorem dX11_go_209 : decode cX11_go 209 = .ok (.iload_n 3, 1) := by decide +kernel
theorem dX11_go_210 : decode cX11_go 210 = .ok (.iload 6, 2) := by decide +kernel
theorem dX11_go_212 : decode cX11_go 212 = .ok (.ifCond .eq 17, 3) := by decide +kernel
theorem dX11_go_215 : decode cX11_go 215 = .ok (.aload_n 0, 1) := by decide +kernel
theorem dX11_go_216 : decode cX11_go 216 = .ok (.iload_n 2, 1) := by decide +kernel
theorem dX11_go_217 : decode cX11_go 217 = .ok (.aload_n 0, 1) := by decide +kernel
theorem dX11_go_218 : decode cX11_go 218 = .ok (.getfield 50, 3) := by decide +kernel
theorem dX11_go_221 : decode cX11_go 221 = .ok (.iload_n 2, 1) := by decide +kernel
theorem dX11_go_222 : decode cX11_go 222 = .ok (.iaload, 1) := by decide +kernel
theorem dX11_go_223 : decode cX11_go 223 = .ok (.invokevirtual 268, 3) := by decide +kernel
theorem dX11_go_226 : decode cX11_go 226 = .ok (.goto 4, 3) := by decide +kernel
theorem dX11_go_229 : decode cX11_go 229 = .ok (.iconst 1, 1) := by decide +kernel
theorem dX11_go_230 : decode cX11_go 230 = .ok (.iadd, 1) := by decide +kernel
theorem dX11_go_231 : decode cX11_go 231 = .ok (.iastore, 1) := by decide +kernel
theorem dX11_go_232 : decode cX11_go 232 = .ok (.iload 6, 2) := by decide +kernel
theorem dX11_go_234 : decode cX11_go 234 = .ok (.ifCond .eq 15, 3) := by decide +kernel
theorem dX11_go_237 : decode cX11_go 237 = .ok (.aload_n 0, 1) := by decide +kernel
theorem dX11_go_238 : decode cX11_go 238 = .ok (.dup, 1) := by decide +kernel
theorem dX11_go_239 : decode cX11_go 239 = .ok (.getfield 252, 3) := by decide +kernel
theorem dX11_go_242 : decode cX11_go 242 = .ok (.iconst 1, 1) := by decide +kernel
theorem dX11_go_243 : decode cX11_go 243 = .ok (.iload_n 2, 1) := by decide +kernel
theorem dX11_go_244 : decode cX11_go 244 = .ok (.ishl, 1) := by decide +kernel
theorem dX11_go_245 : decode cX11_go 245 = .ok (.ior, 1) := by decide +kernel
theorem dX11_go_246 : decode cX11_go 246 = .ok (.putfield 252, 3) := by decide +kernel
theorem dX11_go_249 : decode cX11_go 249 = .ok (.return_, 1) := by decide +kernel
theorem dX11_noHouse_0 : decode cX11_noHouse 0 = .ok (.aload_n 0, 1) := by decide +kernel
theorem dX11_noHouse_1 : decode cX11_noHouse 1 = .ok (.iload_n 1, 1) := by decide +kernel
theorem dX11_noHouse_2 : decode cX11_noHouse 2 = .ok (.iconst 0, 1) := by decide +kernel
theorem dX11_noHouse_3 : decode cX11_noHouse 3 = .ok (.aload_n 0, 1) := by decide +kernel
theorem dX11_noHouse_4 : decode cX11_noHouse 4 = .ok (.getfield 17, 3) := by decide +kernel
theorem dX11_noHouse_7 : decode cX11_noHouse 7 = .ok (.iconst 2, 1) := by decide +kernel
theorem dX11_noHouse_8 : decode cX11_noHouse 8 = .ok (.iaload, 1) := by decide +kernel
theorem dX11_noHouse_9 : decode cX11_noHouse 9 = .ok (.iconst 1, 1) := by decide +kernel
theorem dX11_noHouse_10 : decode cX11_noHouse 10 = .ok (.isub, 1) := by decide +kernel
theorem dX11_noHouse_11 : decode cX11_noHouse 11 = .ok (.invokestatic 93, 3) := by decide +kernel
theorem dX11_noHouse_14 : decode cX11_noHouse 14 = .ok (.ifCond .ne 7, 3) := by decide +kernel
theorem dX11_noHouse_17 : decode cX11_noHouse 17 = .ok (.iconst 1, 1) := by decide +kernel
theorem dX11_noHouse_18 : decode cX11_noHouse 18 = .ok (.goto 4, 3) := by decide +kernel
theorem dX11_noHouse_21 : decode cX11_noHouse 21 = .ok (.iconst 0, 1) := by decide +kernel
theorem dX11_noHouse_22 : decode cX11_noHouse 22 = .ok (.iconst 1, 1) := by decide +kernel
theorem dX11_noHouse_23 : decode cX11_noHouse 23 = .ok (.invokevirtual 195, 3) := by decide +kernel
theorem dX11_noHouse_26 : decode cX11_noHouse 26 = .ok (.ireturn, 1) := by decide +kernel
theorem dX11_noWalker_0 : decode cX11_noWalker 0 = .ok (.aload_n 0, 1) := by decide +kernel
theorem dX11_noWalker_1 : decode cX11_noWalker 1 = .ok (.iload_n 1, 1) := by decide +kernel
theorem dX11_noWalker_2 : decode cX11_noWalker 2 = .ok (.iconst 0, 1) := by decide +kernel
theorem dX11_noWalker_3 : decode cX11_noWalker 3 = .ok (.aload_n 0, 1) := by decide +kernel
theorem dX11_noWalker_4 : decode cX11_noWalker 4 = .ok (.getfield 17, 3) := by decide +kernel
theorem dX11_noWalker_7 : decode cX11_noWalker 7 = .ok (.iconst 3, 1) := by decide +kernel
theorem dX11_noWalker_8 : decode cX11_noWalker 8 = .ok (.iaload, 1) := by decide +kernel
theorem dX11_noWalker_9 : decode cX11_noWalker 9 = .ok (.iconst 1, 1) := by decide +kernel
theorem dX11_noWalker_10 : decode cX11_noWalker 10 = .ok (.isub, 1) := by decide +kernel
theorem dX11_noWalker_11 : decode cX11_noWalker 11 = .ok (.invokestatic 93, 3) := by decide +kernel
theorem dX11_noWalker_14 : decode cX11_noWalker 14 = .ok (.ifCond .ne 7, 3) := by decide +kernel
theorem dX11_noWalker_17 : decode cX11_noWalker 17 = .ok (.iconst 1, 1) := by decide +kernel
theorem dX11_noWalker_18 : decode cX11_noWalker 18 = .ok (.goto 4, 3) := by decide +kernel
theorem dX11_noWalker_21 : decode cX11_noWalker 21 = .ok (.iconst 0, 1) := by decide +kernel
theorem dX11_noWalker_22 : decode cX11_noWalker 22 = .ok (.iconst 1, 1) := by decide +kernel
theorem dX11_noWalker_23 : decode cX11_noWalker 23 = .ok (.invokevirtual 195, 3) := by decide +kernel
theorem dX11_noWalker_26 : decode cX11_noWalker 26 = .ok (.ireturn, 1) := by decide +kernel
theorem dX11_noStreet_0 : decode cX11_noStreet 0 = .ok (.aload_n 0, 1) := by decide +kernel
theorem dX11_noStreet_1 : decode cX11_noStreet 1 = .ok (.iload_n 1, 1) := by decide +kernel
theorem dX11_noStreet_2 : decode cX11_noStreet 2 = .ok (.iconst 0, 1) := by decide +kernel
theorem dX11_noStreet_3 : decode cX11_noStreet 3 = .ok (.aload_n 0, 1) := by decide +kernel
theorem dX11_noStreet_4 : decode cX11_noStreet 4 = .ok (.getfield 17, 3) := by decide +kernel
theorem dX11_noStreet_7 : decode cX11_noStreet 7 = .ok (.iconst 1, 1) := by decide +kernel
theorem dX11_noStreet_8 : decode cX11_noStreet 8 = .ok (.iaload, 1) := by decide +kernel
theorem dX11_noStreet_9 : decode cX11_noStreet 9 = .ok (.iconst 1, 1) := by decide +kernel
theorem dX11_noStreet_10 : decode cX11_noStreet 10 = .ok (.isub, 1) := by decide +kernel
theorem dX11_noStreet_11 : decode cX11_noStreet 11 = .ok (.invokestatic 93, 3) := by decide +kernel
theorem dX11_noStreet_14 : decode cX11_noStreet 14 = .ok (.ifCond .ne 7, 3) := by decide +kernel
theorem dX11_noStreet_17 : decode cX11_noStreet 17 = .ok (.iconst 1, 1) := by decide +kernel
theorem dX11_noStreet_18 : decode cX11_noStreet 18 = .ok (.goto 4, 3) := by decide +kernel
theorem dX11_noStreet_21 : decode cX11_noStreet 21 = .ok (.iconst 0, 1) := by decide +kernel
theorem dX11_noStreet_22 : decode cX11_noStreet 22 = .ok (.iconst 1, 1) := by decide +kernel
theorem dX11_noStreet_23 : decode cX11_noStreet 23 = .ok (.invokevirtual 195, 3) := by decide +kernel
theorem dX11_noStreet_26 : decode cX11_noStreet 26 = .ok (.ireturn, 1) := by decide +kernel
theorem dX11_crossingCount_0 : decode cX11_crossingCount 0 = .ok (.aload_n 0, 1) := by decide +kernel
theorem dX11_crossingCount_1 : decode cX11_crossingCount 1 = .ok (.iconst 0, 1) := by decide +kernel
theorem dX11_crossingCount_2 : decode cX11_crossingCount 2 = .ok (.putfield 71, 3) := by decide +kernel
theorem dX11_crossingCount_5 : decode cX11_crossingCount 5 = .ok (.aload_n 0, 1) := by decide +kernel
theorem dX11_crossingCount_6 : decode cX11_crossingCount 6 = .ok (.getfield 17, 3) := by decide +kernel
theorem dX11_crossingCount_9 : decode cX11_crossingCount 9 = .ok (.iconst 0, 1) := by decide +kernel
theorem dX11_crossingCount_10 : decode cX11_crossingCount 10 = .ok (.iaload, 1) := by decide +kernel
theorem dX11_crossingCount_11 : decode cX11_crossingCount 11 = .ok (.ireturn, 1) := by decide +kernel
theorem dX11_streetCount_0 : decode cX11_streetCount 0 = .ok (.aload_n 0, 1) := by decide +kernel
theorem dX11_streetCount_1 : decode cX11_streetCount 1 = .ok (.iconst 0, 1) := by decide +kernel
theorem dX11_streetCount_2 : decode cX11_streetCount 2 = .ok (.putfield 71, 3) := by decide +kernel
theorem dX11_streetCount_5 : decode cX11_streetCount 5 = .ok (.aload_n 0, 1) := by decide +kernel
theorem dX11_streetCount_6 : decode cX11_streetCount 6 = .ok (.getfield 17, 3) := by decide +kernel
theorem dX11_streetCount_9 : decode cX11_streetCount 9 = .ok (.iconst 1, 1) := by decide +kernel
theorem dX11_streetCount_10 : decode cX11_streetCount 10 = .ok (.iaload, 1) := by decide +kernel
theorem dX11_streetCount_11 : decode cX11_streetCount 11 = .ok (.ireturn, 1) := by decide +kernel
theorem dX11_houseCount_0 : decode cX11_houseCount 0 = .ok (.aload_n 0, 1) := by decide +kernel
theorem dX11_houseCount_1 : decode cX11_houseCount 1 = .ok (.iconst 0, 1) := by decide +kernel
theorem dX11_houseCount_2 : decode cX11_houseCount 2 = .ok (.putfield 71, 3) := by decide +kernel
theorem dX11_houseCount_5 : decode cX11_houseCount 5 = .ok (.aload_n 0, 1) := by decide +kernel
theorem dX11_houseCount_6 : decode cX11_houseCount 6 = .ok (.getfield 17, 3) := by decide +kernel
theorem dX11_houseCount_9 : decode cX11_houseCount 9 = .ok (.iconst 2, 1) := by decide +kernel
theorem dX11_houseCount_10 : decode cX11_houseCount 10 = .ok (.iaload, 1) := by decide +kernel
theorem dX11_houseCount_11 : decode cX11_houseCount 11 = .ok (.ireturn, 1) := by decide +kernel
theorem dX11_walkerCount_0 : decode cX11_walkerCount 0 = .ok (.aload_n 0, 1) := by decide +kernel
theorem dX11_walkerCount_1 : decode cX11_walkerCount 1 = .ok (.iconst 0, 1) := by decide +kernel
theorem dX11_walkerCount_2 : decode cX11_walkerCount 2 = .ok (.putfield 71, 3) := by decide +kernel
theorem dX11_walkerCount_5 : decode cX11_walkerCount 5 = .ok (.aload_n 0, 1) := by decide +kernel
theorem dX11_walkerCount_6 : decode cX11_walkerCount 6 = .ok (.getfield 17, 3) := by decide +kernel
theorem dX11_walkerCount_9 : decode cX11_walkerCount 9 = .ok (.iconst 3, 1) := by decide +kernel
theorem dX11_walkerCount_10 : decode cX11_walkerCount 10 = .ok (.iaload, 1) := by decide +kernel
theorem dX11_walkerCount_11 : decode cX11_walkerCount 11 = .ok (.ireturn, 1) := by decide +kernel
theorem dX11_distance_0 : decode cX11_distance 0 = .ok (.aload_n 0, 1) := by decide +kernel
theorem dX11_distance_1 : decode cX11_distance 1 = .ok (.iconst 0, 1) := by decide +kernel
theorem dX11_distance_2 : decode cX11_distance 2 = .ok (.putfield 71, 3) := by decide +kernel
theorem dX11_distance_5 : decode cX11_distance 5 = .ok (.aload_n 0, 1) := by decide +kernel
theorem dX11_distance_6 : decode cX11_distance 6 = .ok (.iload_n 1, 1) := by decide +kernel
theorem dX11_distance_7 : decode cX11_distance 7 = .ok (.invokevirtual 270, 3) := by decide +kernel
theorem dX11_distance_10 : decode cX11_distance 10 = .ok (.ifCond .ne 11, 3) := by decide +kernel
theorem dX11_distance_13 : decode cX11_distance 13 = .ok (.aload_n 0, 1) := by decide +kernel
theorem dX11_distance_14 : decode cX11_distance 14 = .ok (.iload_n 2, 1) := by decide +kernel
theorem dX11_distance_15 : decode cX11_distance 15 = .ok (.invokevirtual 270, 3) := by decide +kernel
theorem dX11_distance_18 : decode cX11_distance 18 = .ok (.ifCond .eq 5, 3) := by decide +kernel
theorem dX11_distance_21 : decode cX11_distance 21 = .ok (.iconst 0, 1) := by decide +kernel
theorem dX11_distance_22 : decode cX11_distance 22 = .ok (.ireturn, 1) := by decide +kernel
theorem dX11_distance_23 : decode cX11_distance 23 = .ok (.aload_n 0, 1) := by decide +kernel
theorem dX11_distance_24 : decode cX11_distance 24 = .ok (.invokevirtual 249, 3) := by decide +kernel
theorem dX11_distance_27 : decode cX11_distance 27 = .ok (.aload_n 0, 1) := by decide +kernel
theorem dX11_distance_28 : decode cX11_distance 28 = .ok (.iload_n 1, 1) := by decide +kernel
theorem dX11_distance_29 : decode cX11_distance 29 = .ok (.iload_n 2, 1) := by decide +kernel
theorem dX11_distance_30 : decode cX11_distance 30 = .ok (.invokevirtual 240, 3) := by decide +kernel
theorem dX11_distance_33 : decode cX11_distance 33 = .ok (.invokestatic 273, 3) := by decide +kernel
theorem dX11_distance_36 : decode cX11_distance 36 = .ok (.ireturn, 1) := by decide +kernel
theorem dX11_distanceFrom_0 : decode cX11_distanceFrom 0 = .ok (.aload_n 0, 1) := by decide +kernel
theorem dX11_distanceFrom_1 : decode cX11_distanceFrom 1 = .ok (.iconst 0, 1) := by decide +kernel
theorem dX11_distanceFrom_2 : decode cX11_distanceFrom 2 = .ok (.putfield 71, 3) := by decide +kernel
theorem dX11_distanceFrom_5 : decode cX11_distanceFrom 5 = .ok (.aload_n 0, 1) := by decide +kernel
theorem dX11_distanceFrom_6 : decode cX11_distanceFrom 6 = .ok (.iload_n 1, 1) := by decide +kernel
theorem dX11_distanceFrom_7 : decode cX11_distanceFrom 7 = .ok (.iconst 0, 1) := by decide +kernel
theorem dX11_distanceFrom_8 : decode cX11_distanceFrom 8 = .ok (.aload_n 0, 1) := by decide +kernel
theorem dX11_distanceFrom_9 : decode cX11_distanceFrom 9 = .ok (.getfield 17, 3) := by decide +kernel
theorem dX11_distanceFrom_12 : decode cX11_distanceFrom 12 = .ok (.iconst 0, 1) := by decide +kernel
theorem dX11_distanceFrom_13 : decode cX11_distanceFrom 13 = .ok (.iaload, 1) := by decide +kernel
theorem dX11_distanceFrom_14 : decode cX11_distanceFrom 14 = .ok (.iconst 1, 1) := by decide +kernel
theorem dX11_distanceFrom_15 : decode cX11_distanceFrom 15 = .ok (.isub, 1) := by decide +kernel
theorem dX11_distanceFrom_16 : decode cX11_distanceFrom 16 = .ok (.invokestatic 93, 3) := by decide +kernel
theorem dX11_distanceFrom_19 : decode cX11_distanceFrom 19 = .ok (.ifCond .ne 7, 3) := by decide +kernel
theorem dX11_distanceFrom_22 : decode cX11_distanceFrom 22 = .ok (.iconst 1, 1) := by decide +kernel
theorem dX11_distanceFrom_23 : decode cX11_distanceFrom 23 = .ok (.goto 4, 3) := by decide +kernel
theorem dX11_distanceFrom_26 : decode cX11_distanceFrom 26 = .ok (.iconst 0, 1) := by decide +kernel
theorem dX11_distanceFrom_27 : decode cX11_distanceFrom 27 = .ok (.iconst 1, 1) := by decide +kernel
theorem dX11_distanceFrom_28 : decode cX11_distanceFrom 28 = .ok (.invokevirtual 195, 3) := by decide +kernel
theorem dX11_distanceFrom_31 : decode cX11_distanceFrom 31 = .ok (.ifCond .ne 11, 3) := by decide +kernel
theorem dX11_distanceFrom_34 : decode cX11_distanceFrom 34 = .ok (.aload_n 0, 1) := by decide +kernel
theorem dX11_distanceFrom_35 : decode cX11_distanceFrom 35 = .ok (.iload_n 2, 1) := by decide +kernel
theorem dX11_distanceFrom_36 : decode cX11_distanceFrom 36 = .ok (.invokevirtual 270, 3) := by decide +kernel
theorem dX11_distanceFrom_39 : decode cX11_distanceFrom 39 = .ok (.ifCond .eq 5, 3) := by decide +kernel
theorem dX11_distanceFrom_42 : decode cX11_distanceFrom 42 = .ok (.iconst 0, 1) := by decide +kernel
theorem dX11_distanceFrom_43 : decode cX11_distanceFrom 43 = .ok (.ireturn, 1) := by decide +kernel
theorem dX11_distanceFrom_44 : decode cX11_distanceFrom 44 = .ok (.aload_n 0, 1) := by decide +kernel
theorem dX11_distanceFrom_45 : decode cX11_distanceFrom 45 = .ok (.invokevirtual 249, 3) := by decide +kernel
theorem dX11_distanceFrom_48 : decode cX11_distanceFrom 48 = .ok (.aload_n 0, 1) := by decide +kernel
theorem dX11_distanceFrom_49 : decode cX11_distanceFrom 49 = .ok (.iload_n 1, 1) := by decide +kernel
theorem dX11_distanceFrom_50 : decode cX11_distanceFrom 50 = .ok (.iload_n 2, 1) := by decide +kernel
theorem dX11_distanceFrom_51 : decode cX11_distanceFrom 51 = .ok (.invokevirtual 223, 3) := by decide +kernel
theorem dX11_distanceFrom_54 : decode cX11_distanceFrom 54 = .ok (.invokestatic 273, 3) := by decide +kernel
theorem dX11_distanceFrom_57 : decode cX11_distanceFrom 57 = .ok (.ireturn, 1) := by decide +kernel
theorem dX11_streetOf_0 : decode cX11_streetOf 0 = .ok (.aload_n 0, 1) := by decide +kernel
theorem dX11_streetOf_1 : decode cX11_streetOf 1 = .ok (.iconst 0, 1) := by decide +kernel
theorem dX11_streetOf_2 : decode cX11_streetOf 2 = .ok (.putfield 71, 3) := by decide +kernel
theorem dX11_streetOf_5 : decode cX11_streetOf 5 = .ok (.aload_n 0, 1) := by decide +kernel
theorem dX11_streetOf_6 : decode cX11_streetOf 6 = .ok (.iload_n 1, 1) := by decide +kernel
theorem dX11_streetOf_7 : decode cX11_streetOf 7 = .ok (.invokevirtual 270, 3) := by decide +kernel
theorem dX11_streetOf_10 : decode cX11_streetOf 10 = .ok (.ifCond .eq 7, 3) := by decide +kernel
theorem dX11_streetOf_13 : decode cX11_streetOf 13 = .ok (.iconst 0, 1) := by decide +kernel
theorem dX11_streetOf_14 : decode cX11_streetOf 14 = .ok (.goto 12, 3) := by decide +kernel
theorem dX11_streetOf_17 : decode cX11_streetOf 17 = .ok (.aload_n 0, 1) := by decide +kernel
theorem dX11_streetOf_18 : decode cX11_streetOf 18 = .ok (.getfield 17, 3) := by decide +kernel
theorem dX11_streetOf_21 : decode cX11_streetOf 21 = .ok (.iload_n 1, 1) := by decide +kernel
theorem dX11_streetOf_22 : decode cX11_streetOf 22 = .ok (.invokestatic 165, 3) := by decide +kernel
theorem dX11_streetOf_25 : decode cX11_streetOf 25 = .ok (.iaload, 1) := by decide +kernel
theorem dX11_streetOf_26 : decode cX11_streetOf 26 = .ok (.ireturn, 1) := by decide +kernel
theorem dX11_isOpen_0 : decode cX11_isOpen 0 = .ok (.aload_n 0, 1) := by decide +kernel
theorem dX11_isOpen_1 : decode cX11_isOpen 1 = .ok (.iconst 0, 1) := by decide +kernel
theorem dX11_isOpen_2 : decode cX11_isOpen 2 = .ok (.putfield 71, 3) := by decide +kernel
theorem dX11_isOpen_5 : decode cX11_isOpen 5 = .ok (.aload_n 0, 1) := by decide +kernel
theorem dX11_isOpen_6 : decode cX11_isOpen 6 = .ok (.iload_n 1, 1) := by decide +kernel
theorem dX11_isOpen_7 : decode cX11_isOpen 7 = .ok (.invokevirtual 276, 3) := by decide +kernel
theorem dX11_isOpen_10 : decode cX11_isOpen 10 = .ok (.ifCond .ne 21, 3) := by decide +kernel
theorem dX11_isOpen_13 : decode cX11_isOpen 13 = .ok (.aload_n 0, 1) := by decide +kernel
theorem dX11_isOpen_14 : decode cX11_isOpen 14 = .ok (.getfield 17, 3) := by decide +kernel
theorem dX11_isOpen_17 : decode cX11_isOpen 17 = .ok (.iload_n 1, 1) := by decide +kernel
theorem dX11_isOpen_18 : decode cX11_isOpen 18 = .ok (.invokestatic 162, 3) := by decide +kernel
theorem dX11_isOpen_21 : decode cX11_isOpen 21 = .ok (.iconst 3, 1) := by decide +kernel
theorem dX11_isOpen_22 : decode cX11_isOpen 22 = .ok (.iadd, 1) := by decide +kernel
theorem dX11_isOpen_23 : decode cX11_isOpen 23 = .ok (.iaload, 1) := by decide +kernel
theorem dX11_isOpen_24 : decode cX11_isOpen 24 = .ok (.ifCond .ne 7, 3) := by decide +kernel
theorem dX11_isOpen_27 : decode cX11_isOpen 27 = .ok (.iconst 1, 1) := by decide +kernel
theorem dX11_isOpen_28 : decode cX11_isOpen 28 = .ok (.goto 4, 3) := by decide +kernel
theorem dX11_isOpen_31 : decode cX11_isOpen 31 = .ok (.iconst 0, 1) := by decide +kernel
theorem dX11_isOpen_32 : decode cX11_isOpen 32 = .ok (.ireturn, 1) := by decide +kernel
theorem dX11_hasDog_0 : decode cX11_hasDog 0 = .ok (.aload_n 0, 1) := by decide +kernel
theorem dX11_hasDog_1 : decode cX11_hasDog 1 = .ok (.iconst 0, 1) := by decide +kernel
theorem dX11_hasDog_2 : decode cX11_hasDog 2 = .ok (.putfield 71, 3) := by decide +kernel
theorem dX11_hasDog_5 : decode cX11_hasDog 5 = .ok (.aload_n 0, 1) := by decide +kernel
theorem dX11_hasDog_6 : decode cX11_hasDog 6 = .ok (.iload_n 1, 1) := by decide +kernel
theorem dX11_hasDog_7 : decode cX11_hasDog 7 = .ok (.invokevirtual 270, 3) := by decide +kernel
theorem dX11_hasDog_10 : decode cX11_hasDog 10 = .ok (.ifCond .ne 23, 3) := by decide +kernel
theorem dX11_hasDog_13 : decode cX11_hasDog 13 = .ok (.aload_n 0, 1) := by decide +kernel
theorem dX11_hasDog_14 : decode cX11_hasDog 14 = .ok (.getfield 17, 3) := by decide +kernel
theorem dX11_hasDog_17 : decode cX11_hasDog 17 = .ok (.iload_n 1, 1) := by decide +kernel
theorem dX11_hasDog_18 : decode cX11_hasDog 18 = .ok (.invokestatic 165, 3) := by decide +kernel
theorem dX11_hasDog_21 : decode cX11_hasDog 21 = .ok (.bipush 6, 2) := by decide +kernel
theorem dX11_hasDog_23 : decode cX11_hasDog 23 = .ok (.iadd, 1) := by decide +kernel
theorem dX11_hasDog_24 : decode cX11_hasDog 24 = .ok (.iaload, 1) := by decide +kernel
theorem dX11_hasDog_25 : decode cX11_hasDog 25 = .ok (.iconst 1, 1) := by decide +kernel
theorem dX11_hasDog_26 : decode cX11_hasDog 26 = .ok (.if_icmp .ne 7, 3) := by decide +kernel
theorem dX11_hasDog_29 : decode cX11_hasDog 29 = .ok (.iconst 1, 1) := by decide +kernel
theorem dX11_hasDog_30 : decode cX11_hasDog 30 = .ok (.goto 4, 3) := by decide +kernel
theorem dX11_hasDog_33 : decode cX11_hasDog 33 = .ok (.iconst 0, 1) := by decide +kernel
theorem dX11_hasDog_34 : decode cX11_hasDog 34 = .ok (.ireturn, 1) := by decide +kernel
theorem dX11_isHome_0 : decode cX11_isHome 0 = .ok (.aload_n 0, 1) := by decide +kernel
theorem dX11_isHome_1 : decode cX11_isHome 1 = .ok (.iconst 0, 1) := by decide +kernel
theorem dX11_isHome_2 : decode cX11_isHome 2 = .ok (.putfield 71, 3) := by decide +kernel
theorem dX11_isHome_5 : decode cX11_isHome 5 = .ok (.aload_n 0, 1) := by decide +kernel
theorem dX11_isHome_6 : decode cX11_isHome 6 = .ok (.iload_n 1, 1) := by decide +kernel
theorem dX11_isHome_7 : decode cX11_isHome 7 = .ok (.invokevirtual 270, 3) := by decide +kernel
theorem dX11_isHome_10 : decode cX11_isHome 10 = .ok (.ifCond .ne 40, 3) := by decide +kernel
theorem dX11_isHome_13 : decode cX11_isHome 13 = .ok (.aload_n 0, 1) := by decide +kernel
theorem dX11_isHome_14 : decode cX11_isHome 14 = .ok (.iload_n 2, 1) := by decide +kernel
theorem dX11_isHome_15 : decode cX11_isHome 15 = .ok (.iconst 0, 1) := by decide +kernel
theorem dX11_isHome_16 : decode cX11_isHome 16 = .ok (.sipush 9999, 3) := by decide +kernel
theorem dX11_isHome_19 : decode cX11_isHome 19 = .ok (.invokestatic 93, 3) := by decide +kernel
theorem dX11_isHome_22 : decode cX11_isHome 22 = .ok (.ifCond .ne 7, 3) := by decide +kernel
theorem dX11_isHome_25 : decode cX11_isHome 25 = .ok (.iconst 1, 1) := by decide +kernel
theorem dX11_isHome_26 : decode cX11_isHome 26 = .ok (.goto 4, 3) := by decide +kernel
theorem dX11_isHome_29 : decode cX11_isHome 29 = .ok (.iconst 0, 1) := by decide +kernel
theorem dX11_isHome_30 : decode cX11_isHome 30 = .ok (.iconst 2, 1) := by decide +kernel
theorem dX11_isHome_31 : decode cX11_isHome 31 = .ok (.invokevirtual 195, 3) := by decide +kernel
theorem dX11_isHome_34 : decode cX11_isHome 34 = .ok (.ifCond .ne 16, 3) := by decide +kernel
theorem dX11_isHome_37 : decode cX11_isHome 37 = .ok (.aload_n 0, 1) := by decide +kernel
theorem dX11_isHome_38 : decode cX11_isHome 38 = .ok (.iload_n 1, 1) := by decide +kernel
theorem dX11_isHome_39 : decode cX11_isHome 39 = .ok (.iload_n 2, 1) := by decide +kernel
theorem dX11_isHome_40 : decode cX11_isHome 40 = .ok (.invokevirtual 264, 3) := by decide +kernel
theorem dX11_isHome_43 : decode cX11_isHome 43 = .ok (.ifCond .eq 7, 3) := by decide +kernel
theorem dX11_isHome_46 : decode cX11_isHome 46 = .ok (.iconst 1, 1) := by decide +kernel
theorem dX11_isHome_47 : decode cX11_isHome 47 = .ok (.goto 4, 3) := by decide +kernel
theorem dX11_isHome_50 : decode cX11_isHome 50 = .ok (.iconst 0, 1) := by decide +kernel
theorem dX11_isHome_51 : decode cX11_isHome 51 = .ok (.ireturn, 1) := by decide +kernel
theorem dX11_duration_0 : decode cX11_duration 0 = .ok (.aload_n 0, 1) := by decide +kernel
theorem dX11_duration_1 : decode cX11_duration 1 = .ok (.iconst 0, 1) := by decide +kernel
theorem dX11_duration_2 : decode cX11_duration 2 = .ok (.putfield 71, 3) := by decide +kernel
theorem dX11_duration_5 : decode cX11_duration 5 = .ok (.aload_n 0, 1) := by decide +kernel
theorem dX11_duration_6 : decode cX11_duration 6 = .ok (.iload_n 1, 1) := by decide +kernel
theorem dX11_duration_7 : decode cX11_duration 7 = .ok (.invokevirtual 270, 3) := by decide +kernel
theorem dX11_duration_10 : decode cX11_duration 10 = .ok (.ifCond .ne 25, 3) := by decide +kernel
theorem dX11_duration_13 : decode cX11_duration 13 = .ok (.aload_n 0, 1) := by decide +kernel
theorem dX11_duration_14 : decode cX11_duration 14 = .ok (.iload_n 2, 1) := by decide +kernel
theorem dX11_duration_15 : decode cX11_duration 15 = .ok (.iconst 1, 1) := by decide +kernel
theorem dX11_duration_16 : decode cX11_duration 16 = .ok (.iconst 2, 1) := by decide +kernel
theorem dX11_duration_17 : decode cX11_duration 17 = .ok (.invokestatic 93, 3) := by decide +kernel
theorem dX11_duration_20 : decode cX11_duration 20 = .ok (.ifCond .ne 7, 3) := by decide +kernel
theorem dX11_duration_23 : decode cX11_duration 23 = .ok (.iconst 1, 1) := by decide +kernel
theorem dX11_duration_24 : decode cX11_duration 24 = .ok (.goto 4, 3) := by decide +kernel
theorem dX11_duration_27 : decode cX11_duration 27 = .ok (.iconst 0, 1) := by decide +kernel
theorem dX11_duration_28 : decode cX11_duration 28 = .ok (.iconst 2, 1) := by decide +kernel
theorem dX11_duration_29 : decode cX11_duration 29 = .ok (.invokevirtual 195, 3) := by decide +kernel
theorem dX11_duration_32 : decode cX11_duration 32 = .ok (.ifCond .eq 7, 3) := by decide +kernel
theorem dX11_duration_35 : decode cX11_duration 35 = .ok (.iconst 0, 1) := by decide +kernel
theorem dX11_duration_36 : decode cX11_duration 36 = .ok (.goto 9, 3) := by decide +kernel
theorem dX11_duration_39 : decode cX11_duration 39 = .ok (.aload_n 0, 1) := by decide +kernel
theorem dX11_duration_40 : decode cX11_duration 40 = .ok (.iload_n 1, 1) := by decide +kernel
theorem dX11_duration_41 : decode cX11_duration 41 = .ok (.iload_n 2, 1) := by decide +kernel
theorem dX11_duration_42 : decode cX11_duration 42 = .ok (.invokevirtual 268, 3) := by decide +kernel
theorem dX11_duration_45 : decode cX11_duration 45 = .ok (.ireturn, 1) := by decide +kernel
theorem dX11_planLength_0 : decode cX11_planLength 0 = .ok (.aload_n 0, 1) := by decide +kernel
theorem dX11_planLength_1 : decode cX11_planLength 1 = .ok (.iconst 0, 1) := by decide +kernel
theorem dX11_planLength_2 : decode cX11_planLength 2 = .ok (.putfield 71, 3) := by decide +kernel
theorem dX11_planLength_5 : decode cX11_planLength 5 = .ok (.aload_n 0, 1) := by decide +kernel
theorem dX11_planLength_6 : decode cX11_planLength 6 = .ok (.iload_n 1, 1) := by decide +kernel
theorem dX11_planLength_7 : decode cX11_planLength 7 = .ok (.invokevirtual 279, 3) := by decide +kernel
theorem dX11_planLength_10 : decode cX11_planLength 10 = .ok (.ifCond .eq 7, 3) := by decide +kernel
theorem dX11_planLength_13 : decode cX11_planLength 13 = .ok (.iconst 0, 1) := by decide +kernel
theorem dX11_planLength_14 : decode cX11_planLength 14 = .ok (.goto 14, 3) := by decide +kernel
theorem dX11_planLength_17 : decode cX11_planLength 17 = .ok (.aload_n 0, 1) := by decide +kernel
theorem dX11_planLength_18 : decode cX11_planLength 18 = .ok (.getfield 17, 3) := by decide +kernel
theorem dX11_planLength_21 : decode cX11_planLength 21 = .ok (.iload_n 1, 1) := by decide +kernel
theorem dX11_planLength_22 : decode cX11_planLength 22 = .ok (.invokestatic 168, 3) := by decide +kernel
theorem dX11_planLength_25 : decode cX11_planLength 25 = .ok (.iconst 2, 1) := by decide +kernel
theorem dX11_planLength_26 : decode cX11_planLength 26 = .ok (.iadd, 1) := by decide +kernel
theorem dX11_planLength_27 : decode cX11_planLength 27 = .ok (.iaload, 1) := by decide +kernel
theorem dX11_planLength_28 : decode cX11_planLength 28 = .ok (.ireturn, 1) := by decide +kernel
theorem dX11_noPlanned_0 : decode cX11_noPlanned 0 = .ok (.aload_n 0, 1) := by decide +kernel
theorem dX11_noPlanned_1 : decode cX11_noPlanned 1 = .ok (.iload_n 1, 1) := by decide +kernel
theorem dX11_noPlanned_2 : decode cX11_noPlanned 2 = .ok (.invokevirtual 279, 3) := by decide +kernel
theorem dX11_noPlanned_5 : decode cX11_noPlanned 5 = .ok (.ifCond .ne 37, 3) := by decide +kernel
theorem dX11_noPlanned_8 : decode cX11_noPlanned 8 = .ok (.aload_n 0, 1) := by decide +kernel
theorem dX11_noPlanned_9 : decode cX11_noPlanned 9 = .ok (.iload_n 2, 1) := by decide +kernel
theorem dX11_noPlanned_10 : decode cX11_noPlanned 10 = .ok (.iconst 0, 1) := by decide +kernel
theorem dX11_noPlanned_11 : decode cX11_noPlanned 11 = .ok (.aload_n 0, 1) := by decide +kernel
theorem dX11_noPlanned_12 : decode cX11_noPlanned 12 = .ok (.getfield 17, 3) := by decide +kernel
theorem dX11_noPlanned_15 : decode cX11_noPlanned 15 = .ok (.iload_n 1, 1) := by decide +kernel
theorem dX11_noPlanned_16 : decode cX11_noPlanned 16 = .ok (.invokestatic 168, 3) := by decide +kernel
theorem dX11_noPlanned_19 : decode cX11_noPlanned 19 = .ok (.iconst 2, 1) := by decide +kernel
theorem dX11_noPlanned_20 : decode cX11_noPlanned 20 = .ok (.iadd, 1) := by decide +kernel
theorem dX11_noPlanned_21 : decode cX11_noPlanned 21 = .ok (.iaload, 1) := by decide +kernel
theorem dX11_noPlanned_22 : decode cX11_noPlanned 22 = .ok (.iconst 1, 1) := by decide +kernel
theorem dX11_noPlanned_23 : decode cX11_noPlanned 23 = .ok (.isub, 1) := by decide +kernel
theorem dX11_noPlanned_24 : decode cX11_noPlanned 24 = .ok (.invokestatic 93, 3) := by decide +kernel
theorem dX11_noPlanned_27 : decode cX11_noPlanned 27 = .ok (.ifCond .ne 7, 3) := by decide +kernel
theorem dX11_noPlanned_30 : decode cX11_noPlanned 30 = .ok (.iconst 1, 1) := by decide +kernel
theorem dX11_noPlanned_31 : decode cX11_noPlanned 31 = .ok (.goto 4, 3) := by decide +kernel
theorem dX11_noPlanned_34 : decode cX11_noPlanned 34 = .ok (.iconst 0, 1) := by decide +kernel
theorem dX11_noPlanned_35 : decode cX11_noPlanned 35 = .ok (.iconst 1, 1) := by decide +kernel
theorem dX11_noPlanned_36 : decode cX11_noPlanned 36 = .ok (.invokevirtual 195, 3) := by decide +kernel
theorem dX11_noPlanned_39 : decode cX11_noPlanned 39 = .ok (.ifCond .eq 7, 3) := by decide +kernel
theorem dX11_noPlanned_42 : decode cX11_noPlanned 42 = .ok (.iconst 1, 1) := by decide +kernel
theorem dX11_noPlanned_43 : decode cX11_noPlanned 43 = .ok (.goto 4, 3) := by decide +kernel
theorem dX11_noPlanned_46 : decode cX11_noPlanned 46 = .ok (.iconst 0, 1) := by decide +kernel
theorem dX11_noPlanned_47 : decode cX11_noPlanned 47 = .ok (.ireturn, 1) := by decide +kernel
theorem dX11_planned_0 : decode cX11_planned 0 = .ok (.aload_n 0, 1) := by decide +kernel
theorem dX11_planned_1 : decode cX11_planned 1 = .ok (.iconst 0, 1) := by decide +kernel
theorem dX11_planned_2 : decode cX11_planned 2 = .ok (.putfield 71, 3) := by decide +kernel
theorem dX11_planned_5 : decode cX11_planned 5 = .ok (.aload_n 0, 1) := by decide +kernel
theorem dX11_planned_6 : decode cX11_planned 6 = .ok (.iload_n 1, 1) := by decide +kernel
theorem dX11_planned_7 : decode cX11_planned 7 = .ok (.iload_n 2, 1) := by decide +kernel
theorem dX11_planned_8 : decode cX11_planned 8 = .ok (.invokevirtual 282, 3) := by decide +kernel
theorem dX11_planned_11 : decode cX11_planned 11 = .ok (.ifCond .eq 7, 3) := by decide +kernel
theorem dX11_planned_14 : decode cX11_planned 14 = .ok (.iconst 0, 1) := by decide +kernel
theorem dX11_planned_15 : decode cX11_planned 15 = .ok (.goto 16, 3) := by decide +kernel
theorem dX11_planned_18 : decode cX11_planned 18 = .ok (.aload_n 0, 1) := by decide +kernel
theorem dX11_planned_19 : decode cX11_planned 19 = .ok (.getfield 17, 3) := by decide +kernel
theorem dX11_planned_22 : decode cX11_planned 22 = .ok (.iload_n 1, 1) := by decide +kernel
theorem dX11_planned_23 : decode cX11_planned 23 = .ok (.invokestatic 168, 3) := by decide +kernel
theorem dX11_planned_26 : decode cX11_planned 26 = .ok (.iconst 3, 1) := by decide +kernel
theorem dX11_planned_27 : decode cX11_planned 27 = .ok (.iadd, 1) := by decide +kernel
theorem dX11_planned_28 : decode cX11_planned 28 = .ok (.iload_n 2, 1) := by decide +kernel
theorem dX11_planned_29 : decode cX11_planned 29 = .ok (.iadd, 1) := by decide +kernel
theorem dX11_planned_30 : decode cX11_planned 30 = .ok (.iaload, 1) := by decide +kernel
theorem dX11_planned_31 : decode cX11_planned 31 = .ok (.ireturn, 1) := by decide +kernel
theorem dX11_result_0 : decode cX11_result 0 = .ok (.aload_n 0, 1) := by decide +kernel
theorem dX11_result_1 : decode cX11_result 1 = .ok (.iconst 0, 1) := by decide +kernel
theorem dX11_result_2 : decode cX11_result 2 = .ok (.putfield 71, 3) := by decide +kernel
theorem dX11_result_5 : decode cX11_result 5 = .ok (.aload_n 0, 1) := by decide +kernel
theorem dX11_result_6 : decode cX11_result 6 = .ok (.iload_n 1, 1) := by decide +kernel
theorem dX11_result_7 : decode cX11_result 7 = .ok (.iload_n 2, 1) := by decide +kernel
theorem dX11_result_8 : decode cX11_result 8 = .ok (.invokevirtual 282, 3) := by decide +kernel
theorem dX11_result_11 : decode cX11_result 11 = .ok (.ifCond .eq 5, 3) := by decide +kernel
theorem dX11_result_14 : decode cX11_result 14 = .ok (.iconst 0, 1) := by decide +kernel
theorem dX11_result_15 : decode cX11_result 15 = .ok (.ireturn, 1) := by decide +kernel
theorem dX11_result_16 : decode cX11_result 16 = .ok (.aload_n 0, 1) := by decide +kernel
theorem dX11_result_17 : decode cX11_result 17 = .ok (.invokevirtual 285, 3) := by decide +kernel
theorem dX11_result_20 : decode cX11_result 20 = .ok (.aload_n 0, 1) := by decide +kernel
theorem dX11_result_21 : decode cX11_result 21 = .ok (.getfield 44, 3) := by decide +kernel
theorem dX11_result_24 : decode cX11_result 24 = .ok (.bipush 12, 2) := by decide +kernel
theorem dX11_result_26 : decode cX11_result 26 = .ok (.iload_n 1, 1) := by decide +kernel
theorem dX11_result_27 : decode cX11_result 27 = .ok (.imul, 1) := by decide +kernel
theorem dX11_result_28 : decode cX11_result 28 = .ok (.iload_n 2, 1) := by decide +kernel
theorem dX11_result_29 : decode cX11_result 29 = .ok (.iadd, 1) := by decide +kernel
theorem dX11_result_30 : decode cX11_result 30 = .ok (.iaload, 1) := by decide +kernel
theorem dX11_result_31 : decode cX11_result 31 = .ok (.ireturn, 1) := by decide +kernel
theorem dX11_arrival_0 : decode cX11_arrival 0 = .ok (.aload_n 0, 1) := by decide +kernel
theorem dX11_arrival_1 : decode cX11_arrival 1 = .ok (.iconst 0, 1) := by decide +kernel
theorem dX11_arrival_2 : decode cX11_arrival 2 = .ok (.putfield 71, 3) := by decide +kernel
theorem dX11_arrival_5 : decode cX11_arrival 5 = .ok (.aload_n 0, 1) := by decide +kernel
theorem dX11_arrival_6 : decode cX11_arrival 6 = .ok (.iload_n 1, 1) := by decide +kernel
theorem dX11_arrival_7 : decode cX11_arrival 7 = .ok (.iload_n 2, 1) := by decide +kernel
theorem dX11_arrival_8 : decode cX11_arrival 8 = .ok (.invokevirtual 282, 3) := by decide +kernel
theorem dX11_arrival_11 : decode cX11_arrival 11 = .ok (.ifCond .eq 5, 3) := by decide +kernel
theorem dX11_arrival_14 : decode cX11_arrival 14 = .ok (.iconst 0, 1) := by decide +kernel
theorem dX11_arrival_15 : decode cX11_arrival 15 = .ok (.ireturn, 1) := by decide +kernel
theorem dX11_arrival_16 : decode cX11_arrival 16 = .ok (.aload_n 0, 1) := by decide +kernel
theorem dX11_arrival_17 : decode cX11_arrival 17 = .ok (.invokevirtual 285, 3) := by decide +kernel
theorem dX11_arrival_20 : decode cX11_arrival 20 = .ok (.aload_n 0, 1) := by decide +kernel
theorem dX11_arrival_21 : decode cX11_arrival 21 = .ok (.getfield 47, 3) := by decide +kernel
theorem dX11_arrival_24 : decode cX11_arrival 24 = .ok (.bipush 12, 2) := by decide +kernel
theorem dX11_arrival_26 : decode cX11_arrival 26 = .ok (.iload_n 1, 1) := by decide +kernel
theorem dX11_arrival_27 : decode cX11_arrival 27 = .ok (.imul, 1) := by decide +kernel
theorem dX11_arrival_28 : decode cX11_arrival 28 = .ok (.iload_n 2, 1) := by decide +kernel
theorem dX11_arrival_29 : decode cX11_arrival 29 = .ok (.iadd, 1) := by decide +kernel
theorem dX11_arrival_30 : decode cX11_arrival 30 = .ok (.iaload, 1) := by decide +kernel
theorem dX11_arrival_31 : decode cX11_arrival 31 = .ok (.ireturn, 1) := by decide +kernel
theorem dX11_finish_0 : decode cX11_finish 0 = .ok (.aload_n 0, 1) := by decide +kernel
theorem dX11_finish_1 : decode cX11_finish 1 = .ok (.iconst 0, 1) := by decide +kernel
theorem dX11_finish_2 : decode cX11_finish 2 = .ok (.putfield 71, 3) := by decide +kernel
theorem dX11_finish_5 : decode cX11_finish 5 = .ok (.aload_n 0, 1) := by decide +kernel
theorem dX11_finish_6 : decode cX11_finish 6 = .ok (.iload_n 1, 1) := by decide +kernel
theorem dX11_finish_7 : decode cX11_finish 7 = .ok (.invokevirtual 279, 3) := by decide +kernel
theorem dX11_finish_10 : decode cX11_finish 10 = .ok (.ifCond .eq 5, 3) := by decide +kernel
theorem dX11_finish_13 : decode cX11_finish 13 = .ok (.iconst 0, 1) := by decide +kernel
theorem dX11_finish_14 : decode cX11_finish 14 = .ok (.ireturn, 1) := by decide +kernel
theorem dX11_finish_15 : decode cX11_finish 15 = .ok (.aload_n 0, 1) := by decide +kernel
theorem dX11_finish_16 : decode cX11_finish 16 = .ok (.invokevirtual 285, 3) := by decide +kernel
theorem dX11_finish_19 : decode cX11_finish 19 = .ok (.aload_n 0, 1) := by decide +kernel
theorem dX11_finish_20 : decode cX11_finish 20 = .ok (.getfield 35, 3) := by decide +kernel
theorem dX11_finish_23 : decode cX11_finish 23 = .ok (.iload_n 1, 1) := by decide +kernel
theorem dX11_finish_24 : decode cX11_finish 24 = .ok (.iaload, 1) := by decide +kernel
theorem dX11_finish_25 : decode cX11_finish 25 = .ok (.ireturn, 1) := by decide +kernel
theorem dX11_finishAll_0 : decode cX11_finishAll 0 = .ok (.aload_n 0, 1) := by decide +kernel
theorem dX11_finishAll_1 : decode cX11_finishAll 1 = .ok (.iconst 0, 1) := by decide +kernel
theorem dX11_finishAll_2 : decode cX11_finishAll 2 = .ok (.putfield 71, 3) := by decide +kernel
theorem dX11_finishAll_5 : decode cX11_finishAll 5 = .ok (.aload_n 0, 1) := by decide +kernel
theorem dX11_finishAll_6 : decode cX11_finishAll 6 = .ok (.invokevirtual 285, 3) := by decide +kernel
theorem dX11_finishAll_9 : decode cX11_finishAll 9 = .ok (.iconst 0, 1) := by decide +kernel
theorem dX11_finishAll_10 : decode cX11_finishAll 10 = .ok (.istore_n 1, 1) := by decide +kernel
theorem dX11_finishAll_11 : decode cX11_finishAll 11 = .ok (.iconst 0, 1) := by decide +kernel
theorem dX11_finishAll_12 : decode cX11_finishAll 12 = .ok (.istore_n 2, 1) := by decide +kernel
theorem dX11_finishAll_13 : decode cX11_finishAll 13 = .ok (.iload_n 2, 1) := by decide +kernel
theorem dX11_finishAll_14 : decode cX11_finishAll 14 = .ok (.aload_n 0, 1) := by decide +kernel
theorem dX11_finishAll_15 : decode cX11_finishAll 15 = .ok (.getfield 17, 3) := by decide +kernel
theorem dX11_finishAll_18 : decode cX11_finishAll 18 = .ok (.iconst 3, 1) := by decide +kernel
theorem dX11_finishAll_19 : decode cX11_finishAll 19 = .ok (.iaload, 1) := by decide +kernel
theorem dX11_finishAll_20 : decode cX11_finishAll 20 = .ok (.if_icmp .ge 40, 3) := by decide +kernel
theorem dX11_finishAll_23 : decode cX11_finishAll 23 = .ok (.aload_n 0, 1) := by decide +kernel
theorem dX11_finishAll_24 : decode cX11_finishAll 24 = .ok (.getfield 17, 3) := by decide +kernel
theorem dX11_finishAll_27 : decode cX11_finishAll 27 = .ok (.iload_n 2, 1) := by decide +kernel
theorem dX11_finishAll_28 : decode cX11_finishAll 28 = .ok (.invokestatic 168, 3) := by decide +kernel
theorem dX11_finishAll_31 : decode cX11_finishAll 31 = .ok (.iconst 2, 1) := by decide +kernel
theorem dX11_finishAll_32 : decode cX11_finishAll 32 = .ok (.iadd, 1) := by decide +kernel
theorem dX11_finishAll_33 : decode cX11_finishAll 33 = .ok (.iaload, 1) := by decide +kernel
theorem dX11_finishAll_34 : decode cX11_finishAll 34 = .ok (.ifCond .le 20, 3) := by decide +kernel
theorem dX11_finishAll_37 : decode cX11_finishAll 37 = .ok (.aload_n 0, 1) := by decide +kernel
theorem dX11_finishAll_38 : decode cX11_finishAll 38 = .ok (.getfield 35, 3) := by decide +kernel
theorem dX11_finishAll_41 : decode cX11_finishAll 41 = .ok (.iload_n 2, 1) := by decide +kernel
theorem dX11_finishAll_42 : decode cX11_finishAll 42 = .ok (.iaload, 1) := by decide +kernel
theorem dX11_finishAll_43 : decode cX11_finishAll 43 = .ok (.iload_n 1, 1) := by decide +kernel
theorem dX11_finishAll_44 : decode cX11_finishAll 44 = .ok (.if_icmp .le 10, 3) := by decide +kernel
theorem dX11_finishAll_47 : decode cX11_finishAll 47 = .ok (.aload_n 0, 1) := by decide +kernel
theorem dX11_finishAll_48 : decode cX11_finishAll 48 = .ok (.getfield 35, 3) := by decide +kernel
theorem dX11_finishAll_51 : decode cX11_finishAll 51 = .ok (.iload_n 2, 1) := by decide +kernel
theorem dX11_finishAll_52 : decode cX11_finishAll 52 = .ok (.iaload, 1) := by decide +kernel
theorem dX11_finishAll_53 : decode cX11_finishAll 53 = .ok (.istore_n 1, 1) := by decide +kernel
theorem dX11_finishAll_54 : decode cX11_finishAll 54 = .ok (.iinc 2 1, 3) := by decide +kernel
theorem dX11_finishAll_57 : decode cX11_finishAll 57 = .ok (.goto (-44), 3) := by decide +kernel
theorem dX11_finishAll_60 : decode cX11_finishAll 60 = .ok (.iload_n 1, 1) := by decide +kernel
theorem dX11_finishAll_61 : decode cX11_finishAll 61 = .ok (.ireturn, 1) := by decide +kernel
theorem dX11_counted_0 : decode cX11_counted 0 = .ok (.aload_n 0, 1) := by decide +kernel
theorem dX11_counted_1 : decode cX11_counted 1 = .ok (.iconst 0, 1) := by decide +kernel
theorem dX11_counted_2 : decode cX11_counted 2 = .ok (.putfield 71, 3) := by decide +kernel
theorem dX11_counted_5 : decode cX11_counted 5 = .ok (.aload_n 0, 1) := by decide +kernel
theorem dX11_counted_6 : decode cX11_counted 6 = .ok (.invokevirtual 285, 3) := by decide +kernel
theorem dX11_counted_9 : decode cX11_counted 9 = .ok (.aload_n 0, 1) := by decide +kernel
theorem dX11_counted_10 : decode cX11_counted 10 = .ok (.getfield 252, 3) := by decide +kernel
theorem dX11_counted_13 : decode cX11_counted 13 = .ok (.ireturn, 1) := by decide +kernel
theorem dX11_persons_0 : decode cX11_persons 0 = .ok (.aload_n 0, 1) := by decide +kernel
theorem dX11_persons_1 : decode cX11_persons 1 = .ok (.iconst 0, 1) := by decide +kernel
theorem dX11_persons_2 : decode cX11_persons 2 = .ok (.putfield 71, 3) := by decide +kernel
theorem dX11_persons_5 : decode cX11_persons 5 = .ok (.aload_n 0, 1) := by decide +kernel
theorem dX11_persons_6 : decode cX11_persons 6 = .ok (.invokevirtual 285, 3) := by decide +kernel
theorem dX11_persons_9 : decode cX11_persons 9 = .ok (.iconst 0, 1) := by decide +kernel
theorem dX11_persons_10 : decode cX11_persons 10 = .ok (.istore_n 1, 1) := by decide +kernel
theorem dX11_persons_11 : decode cX11_persons 11 = .ok (.iconst 0, 1) := by decide +kernel
theorem dX11_persons_12 : decode cX11_persons 12 = .ok (.istore_n 2, 1) := by decide +kernel
theorem dX11_persons_13 : decode cX11_persons 13 = .ok (.iload_n 2, 1) := by decide +kernel
theorem dX11_persons_14 : decode cX11_persons 14 = .ok (.aload_n 0, 1) := by decide +kernel
theorem dX11_persons_15 : decode cX11_persons 15 = .ok (.getfield 17, 3) := by decide +kernel
theorem dX11_persons_18 : decode cX11_persons 18 = .ok (.iconst 2, 1) := by decide +kernel
theorem dX11_persons_19 : decode cX11_persons 19 = .ok (.iaload, 1) := by decide +kernel
theorem dX11_persons_20 : decode cX11_persons 20 = .ok (.if_icmp .ge 39, 3) := by decide +kernel
theorem dX11_persons_23 : decode cX11_persons 23 = .ok (.iload_n 1, 1) := by decide +kernel
theorem dX11_persons_24 : decode cX11_persons 24 = .ok (.aload_n 0, 1) := by decide +kernel
theorem dX11_persons_25 : decode cX11_persons 25 = .ok (.getfield 252, 3) := by decide +kernel
theorem dX11_persons_28 : decode cX11_persons 28 = .ok (.iload_n 2, 1) := by decide +kernel
theorem dX11_persons_29 : decode cX11_persons 29 = .ok (.ishr, 1) := by decide +kernel
theorem dX11_persons_30 : decode cX11_persons 30 = .ok (.iconst 1, 1) := by decide +kernel
theorem dX11_persons_31 : decode cX11_persons 31 = .ok (.iand, 1) := by decide +kernel
theorem dX11_persons_32 : decode cX11_persons 32 = .ok (.iconst 1, 1) := by decide +kernel
theorem dX11_persons_33 : decode cX11_persons 33 = .ok (.if_icmp .ne 17, 3) := by decide +kernel
theorem dX11_persons_36 : decode cX11_persons 36 = .ok (.aload_n 0, 1) := by decide +kernel
theorem dX11_persons_37 : decode cX11_persons 37 = .ok (.getfield 17, 3) := by decide +kernel
theorem dX11_persons_40 : decode cX11_persons 40 = .ok (.iload_n 2, 1) := by decide +kernel
theorem dX11_persons_41 : decode cX11_persons 41 = .ok (.invokestatic 165, 3) := by decide +kernel
theorem dX11_persons_44 : decode cX11_persons 44 = .ok (.iconst 3, 1) := by decide +kernel
theorem dX11_persons_45 : decode cX11_persons 45 = .ok (.iadd, 1) := by decide +kernel
theorem dX11_persons_46 : decode cX11_persons 46 = .ok (.iaload, 1) := by decide +kernel
theorem dX11_persons_47 : decode cX11_persons 47 = .ok (.goto 4, 3) := by decide +kernel
theorem dX11_persons_50 : decode cX11_persons 50 = .ok (.iconst 0, 1) := by decide +kernel
theorem dX11_persons_51 : decode cX11_persons 51 = .ok (.iadd, 1) := by decide +kernel
theorem dX11_persons_52 : decode cX11_persons 52 = .ok (.istore_n 1, 1) := by decide +kernel
theorem dX11_persons_53 : decode cX11_persons 53 = .ok (.iinc 2 1, 3) := by decide +kernel
theorem dX11_persons_56 : decode cX11_persons 56 = .ok (.goto (-43), 3) := by decide +kernel
theorem dX11_persons_59 : decode cX11_persons 59 = .ok (.iload_n 1, 1) := by decide +kernel
theorem dX11_persons_60 : decode cX11_persons 60 = .ok (.ireturn, 1) := by decide +kernel
theorem dX11_calls_0 : decode cX11_calls 0 = .ok (.aload_n 0, 1) := by decide +kernel
theorem dX11_calls_1 : decode cX11_calls 1 = .ok (.iconst 0, 1) := by decide +kernel
theorem dX11_calls_2 : decode cX11_calls 2 = .ok (.putfield 71, 3) := by decide +kernel
theorem dX11_calls_5 : decode cX11_calls 5 = .ok (.aload_n 0, 1) := by decide +kernel
theorem dX11_calls_6 : decode cX11_calls 6 = .ok (.iload_n 1, 1) := by decide +kernel
theorem dX11_calls_7 : decode cX11_calls 7 = .ok (.invokevirtual 270, 3) := by decide +kernel
theorem dX11_calls_10 : decode cX11_calls 10 = .ok (.ifCond .eq 5, 3) := by decide +kernel
theorem dX11_calls_13 : decode cX11_calls 13 = .ok (.iconst 0, 1) := by decide +kernel
theorem dX11_calls_14 : decode cX11_calls 14 = .ok (.ireturn, 1) := by decide +kernel
theorem dX11_calls_15 : decode cX11_calls 15 = .ok (.aload_n 0, 1) := by decide +kernel
theorem dX11_calls_16 : decode cX11_calls 16 = .ok (.invokevirtual 285, 3) := by decide +kernel
theorem dX11_calls_19 : decode cX11_calls 19 = .ok (.aload_n 0, 1) := by decide +kernel
theorem dX11_calls_20 : decode cX11_calls 20 = .ok (.getfield 50, 3) := by decide +kernel
theorem dX11_calls_23 : decode cX11_calls 23 = .ok (.iload_n 1, 1) := by decide +kernel
theorem dX11_calls_24 : decode cX11_calls 24 = .ok (.iaload, 1) := by decide +kernel
theorem dX11_calls_25 : decode cX11_calls 25 = .ok (.ireturn, 1) := by decide +kernel
theorem dX11_size_0 : decode cX11_size 0 = .ok (.iconst 0, 1) := by decide +kernel
theorem dX11_size_1 : decode cX11_size 1 = .ok (.istore_n 1, 1) := by decide +kernel
theorem dX11_size_2 : decode cX11_size 2 = .ok (.iload_n 0, 1) := by decide +kernel
theorem dX11_size_3 : decode cX11_size 3 = .ok (.istore_n 2, 1) := by decide +kernel
theorem dX11_size_4 : decode cX11_size 4 = .ok (.iload_n 2, 1) := by decide +kernel
theorem dX11_size_5 : decode cX11_size 5 = .ok (.ifCond .le 16, 3) := by decide +kernel
theorem dX11_size_8 : decode cX11_size 8 = .ok (.iload_n 1, 1) := by decide +kernel
theorem dX11_size_9 : decode cX11_size 9 = .ok (.iload_n 2, 1) := by decide +kernel
theorem dX11_size_10 : decode cX11_size 10 = .ok (.iconst 2, 1) := by decide +kernel
theorem dX11_size_11 : decode cX11_size 11 = .ok (.irem, 1) := by decide +kernel
theorem dX11_size_12 : decode cX11_size 12 = .ok (.iadd, 1) := by decide +kernel
theorem dX11_size_13 : decode cX11_size 13 = .ok (.istore_n 1, 1) := by decide +kernel
theorem dX11_size_14 : decode cX11_size 14 = .ok (.iload_n 2, 1) := by decide +kernel
theorem dX11_size_15 : decode cX11_size 15 = .ok (.iconst 2, 1) := by decide +kernel
theorem dX11_size_16 : decode cX11_size 16 = .ok (.idiv, 1) := by decide +kernel
theorem dX11_size_17 : decode cX11_size 17 = .ok (.istore_n 2, 1) := by decide +kernel
theorem dX11_size_18 : decode cX11_size 18 = .ok (.goto (-14), 3) := by decide +kernel
theorem dX11_size_21 : decode cX11_size 21 = .ok (.iload_n 1, 1) := by decide +kernel
theorem dX11_size_22 : decode cX11_size 22 = .ok (.ireturn, 1) := by decide +kernel
theorem dX11_isSet_0 : decode cX11_isSet 0 = .ok (.iload_n 1, 1) := by decide +kernel
theorem dX11_isSet_1 : decode cX11_isSet 1 = .ok (.ifCond .lt 28, 3) := by decide +kernel
theorem dX11_isSet_4 : decode cX11_isSet 4 = .ok (.iload_n 1, 1) := by decide +kernel
theorem dX11_isSet_5 : decode cX11_isSet 5 = .ok (.iconst 1, 1) := by decide +kernel
theorem dX11_isSet_6 : decode cX11_isSet 6 = .ok (.aload_n 0, 1) := by decide +kernel
theorem dX11_isSet_7 : decode cX11_isSet 7 = .ok (.getfield 17, 3) := by decide +kernel
theorem dX11_isSet_10 : decode cX11_isSet 10 = .ok (.iconst 2, 1) := by decide +kernel
theorem dX11_isSet_11 : decode cX11_isSet 11 = .ok (.iaload, 1) := by decide +kernel
theorem dX11_isSet_12 : decode cX11_isSet 12 = .ok (.ishl, 1) := by decide +kernel
theorem dX11_isSet_13 : decode cX11_isSet 13 = .ok (.if_icmp .ge 16, 3) := by decide +kernel
theorem dX11_isSet_16 : decode cX11_isSet 16 = .ok (.iload_n 1, 1) := by decide +kernel
theorem dX11_isSet_17 : decode cX11_isSet 17 = .ok (.invokestatic 288, 3) := by decide +kernel
theorem dX11_isSet_20 : decode cX11_isSet 20 = .ok (.bipush 8, 2) := by decide +kernel
theorem dX11_isSet_22 : decode cX11_isSet 22 = .ok (.if_icmp .gt 7, 3) := by decide +kernel
theorem dX11_isSet_25 : decode cX11_isSet 25 = .ok (.iconst 1, 1) := by decide +kernel
theorem dX11_isSet_26 : decode cX11_isSet 26 = .ok (.goto 4, 3) := by decide +kernel
theorem dX11_isSet_29 : decode cX11_isSet 29 = .ok (.iconst 0, 1) := by decide +kernel
theorem dX11_isSet_30 : decode cX11_isSet 30 = .ok (.ireturn, 1) := by decide +kernel
theorem dX11_lays_0 : decode cX11_lays 0 = .ok (.aload_n 0, 1) := by decide +kernel
theorem dX11_lays_1 : decode cX11_lays 1 = .ok (.iconst 0, 1) := by decide +kernel
theorem dX11_lays_2 : decode cX11_lays 2 = .ok (.putfield 291, 3) := by decide +kernel
theorem dX11_lays_5 : decode cX11_lays 5 = .ok (.iconst 0, 1) := by decide +kernel
theorem dX11_lays_6 : decode cX11_lays 6 = .ok (.istore_n 2, 1) := by decide +kernel
theorem dX11_lays_7 : decode cX11_lays 7 = .ok (.iload_n 2, 1) := by decide +kernel
theorem dX11_lays_8 : decode cX11_lays 8 = .ok (.aload_n 0, 1) := by decide +kernel
theorem dX11_lays_9 : decode cX11_lays 9 = .ok (.getfield 17, 3) := by decide +kernel
theorem dX11_lays_12 : decode cX11_lays 12 = .ok (.iconst 2, 1) := by decide +kernel
theorem dX11_lays_13 : decode cX11_lays 13 = .ok (.iaload, 1) := by decide +kernel
theorem dX11_lays_14 : decode cX11_lays 14 = .ok (.if_icmp .ge 40, 3) := by decide +kernel
theorem dX11_lays_17 : decode cX11_lays 17 = .ok (.iload_n 1, 1) := by decide +kernel
theorem dX11_lays_18 : decode cX11_lays 18 = .ok (.iload_n 2, 1) := by decide +kernel
theorem dX11_lays_19 : decode cX11_lays 19 = .ok (.ishr, 1) := by decide +kernel
theorem dX11_lays_20 : decode cX11_lays 20 = .ok (.iconst 1, 1) := by decide +kernel
theorem dX11_lays_21 : decode cX11_lays 21 = .ok (.iand, 1) := by decide +kernel
theorem dX11_lays_22 : decode cX11_lays 22 = .ok (.ifCond .ne 6, 3) := by decide +kernel
theorem dX11_lays_25 : decode cX11_lays 25 = .ok (.goto 23, 3) := by decide +kernel
theorem dX11_lays_28 : decode cX11_lays 28 = .ok (.aload_n 0, 1) := by decide +kernel
theorem dX11_lays_29 : decode cX11_lays 29 = .ok (.getfield 59, 3) := by decide +kernel
theorem dX11_lays_32 : decode cX11_lays 32 = .ok (.aload_n 0, 1) := by decide +kernel
theorem dX11_lays_33 : decode cX11_lays 33 = .ok (.getfield 291, 3) := by decide +kernel
theorem dX11_lays_36 : decode cX11_lays 36 = .ok (.iload_n 2, 1) := by decide +kernel
theorem dX11_lays_37 : decode cX11_lays 37 = .ok (.iastore, 1) := by decide +kernel
theorem dX11_lays_38 : decode cX11_lays 38 = .ok (.aload_n 0, 1) := by decide +kernel
theorem dX11_lays_39 : decode cX11_lays 39 = .ok (.dup, 1) := by decide +kernel
theorem dX11_lays_40 : decode cX11_lays 40 = .ok (.getfield 291, 3) := by decide +kernel
theorem dX11_lays_43 : decode cX11_lays 43 = .ok (.iconst 1, 1) := by decide +kernel
theorem dX11_lays_44 : decode cX11_lays 44 = .ok (.iadd, 1) := by decide +kernel
theorem dX11_lays_45 : decode cX11_lays 45 = .ok (.putfield 291, 3) := by decide +kernel
theorem dX11_lays_48 : decode cX11_lays 48 = .ok (.iinc 2 1, 3) := by decide +kernel
theorem dX11_lays_51 : decode cX11_lays 51 = .ok (.goto (-44), 3) := by decide +kernel
theorem dX11_lays_54 : decode cX11_lays 54 = .ok (.return_, 1) := by decide +kernel
theorem dX11_after_0 : decode cX11_after 0 = .ok (.iload_n 1, 1) := by decide +kernel
theorem dX11_after_1 : decode cX11_after 1 = .ok (.aload_n 0, 1) := by decide +kernel
theorem dX11_after_2 : decode cX11_after 2 = .ok (.getfield 17, 3) := by decide +kernel
theorem dX11_after_5 : decode cX11_after 5 = .ok (.iload_n 2, 1) := by decide +kernel
theorem dX11_after_6 : decode cX11_after 6 = .ok (.invokestatic 165, 3) := by decide +kernel
theorem dX11_after_9 : decode cX11_after 9 = .ok (.iconst 5, 1) := by decide +kernel
theorem dX11_after_10 : decode cX11_after 10 = .ok (.iadd, 1) := by decide +kernel
theorem dX11_after_11 : decode cX11_after 11 = .ok (.iaload, 1) := by decide +kernel
theorem dX11_after_12 : decode cX11_after 12 = .ok (.if_icmp .lt 6, 3) := by decide +kernel
theorem dX11_after_15 : decode cX11_after 15 = .ok (.ldc 125, 2) := by decide +kernel
theorem dX11_after_17 : decode cX11_after 17 = .ok (.ireturn, 1) := by decide +kernel
theorem dX11_after_18 : decode cX11_after 18 = .ok (.iload_n 1, 1) := by decide +kernel
theorem dX11_after_19 : decode cX11_after 19 = .ok (.aload_n 0, 1) := by decide +kernel
theorem dX11_after_20 : decode cX11_after 20 = .ok (.getfield 17, 3) := by decide +kernel
theorem dX11_after_23 : decode cX11_after 23 = .ok (.iload_n 2, 1) := by decide +kernel
theorem dX11_after_24 : decode cX11_after 24 = .ok (.invokestatic 165, 3) := by decide +kernel
theorem dX11_after_27 : decode cX11_after 27 = .ok (.iconst 4, 1) := by decide +kernel
theorem dX11_after_28 : decode cX11_after 28 = .ok (.iadd, 1) := by decide +kernel
theorem dX11_after_29 : decode cX11_after 29 = .ok (.iaload, 1) := by decide +kernel
theorem dX11_after_30 : decode cX11_after 30 = .ok (.if_icmp .ge 17, 3) := by decide +kernel
theorem dX11_after_33 : decode cX11_after 33 = .ok (.aload_n 0, 1) := by decide +kernel
theorem dX11_after_34 : decode cX11_after 34 = .ok (.getfield 17, 3) := by decide +kernel
theorem dX11_after_37 : decode cX11_after 37 = .ok (.iload_n 2, 1) := by decide +kernel
theorem dX11_after_38 : decode cX11_after 38 = .ok (.invokestatic 165, 3) := by decide +kernel
theorem dX11_after_41 : decode cX11_after 41 = .ok (.iconst 4, 1) := by decide +kernel
theorem dX11_after_42 : decode cX11_after 42 = .ok (.iadd, 1) := by decide +kernel
theorem dX11_after_43 : decode cX11_after 43 = .ok (.iaload, 1) := by decide +kernel
theorem dX11_after_44 : decode cX11_after 44 = .ok (.goto 4, 3) := by decide +kernel
theorem dX11_after_47 : decode cX11_after 47 = .ok (.iload_n 1, 1) := by decide +kernel
theorem dX11_after_48 : decode cX11_after 48 = .ok (.aload_n 0, 1) := by decide +kernel
theorem dX11_after_49 : decode cX11_after 49 = .ok (.iload_n 2, 1) := by decide +kernel
theorem dX11_after_50 : decode cX11_after 50 = .ok (.iconst 1, 1) := by decide +kernel
theorem dX11_after_51 : decode cX11_after 51 = .ok (.invokevirtual 268, 3) := by decide +kernel
theorem dX11_after_54 : decode cX11_after 54 = .ok (.iadd, 1) := by decide +kernel
theorem dX11_after_55 : decode cX11_after 55 = .ok (.ireturn, 1) := by decide +kernel
theorem dX11_goesOn_0 : decode cX11_goesOn 0 = .ok (.iload_n 2, 1) := by decide +kernel
theorem dX11_goesOn_1 : decode cX11_goesOn 1 = .ok (.ifCond .ge 25, 3) := by decide +kernel
theorem dX11_goesOn_4 : decode cX11_goesOn 4 = .ok (.aload_n 0, 1) := by decide +kernel
theorem dX11_goesOn_5 : decode cX11_goesOn 5 = .ok (.aload_n 0, 1) := by decide +kernel
theorem dX11_goesOn_6 : decode cX11_goesOn 6 = .ok (.getfield 17, 3) := by decide +kernel
theorem dX11_goesOn_9 : decode cX11_goesOn 9 = .ok (.iload_n 1, 1) := by decide +kernel
theorem dX11_goesOn_10 : decode cX11_goesOn 10 = .ok (.invokestatic 168, 3) := by decide +kernel
theorem dX11_goesOn_13 : decode cX11_goesOn 13 = .ok (.iaload, 1) := by decide +kernel
theorem dX11_goesOn_14 : decode cX11_goesOn 14 = .ok (.aload_n 0, 1) := by decide +kernel
theorem dX11_goesOn_15 : decode cX11_goesOn 15 = .ok (.getfield 59, 3) := by decide +kernel
theorem dX11_goesOn_18 : decode cX11_goesOn 18 = .ok (.iload_n 3, 1) := by decide +kernel
theorem dX11_goesOn_19 : decode cX11_goesOn 19 = .ok (.iaload, 1) := by decide +kernel
theorem dX11_goesOn_20 : decode cX11_goesOn 20 = .ok (.invokevirtual 223, 3) := by decide +kernel
theorem dX11_goesOn_23 : decode cX11_goesOn 23 = .ok (.goto 19, 3) := by decide +kernel
theorem dX11_goesOn_26 : decode cX11_goesOn 26 = .ok (.aload_n 0, 1) := by decide +kernel
theorem dX11_goesOn_27 : decode cX11_goesOn 27 = .ok (.aload_n 0, 1) := by decide +kernel
theorem dX11_goesOn_28 : decode cX11_goesOn 28 = .ok (.getfield 59, 3) := by decide +kernel
theorem dX11_goesOn_31 : decode cX11_goesOn 31 = .ok (.iload_n 2, 1) := by decide +kernel
theorem dX11_goesOn_32 : decode cX11_goesOn 32 = .ok (.iaload, 1) := by decide +kernel
theorem dX11_goesOn_33 : decode cX11_goesOn 33 = .ok (.aload_n 0, 1) := by decide +kernel
theorem dX11_goesOn_34 : decode cX11_goesOn 34 = .ok (.getfield 59, 3) := by decide +kernel
theorem dX11_goesOn_37 : decode cX11_goesOn 37 = .ok (.iload_n 3, 1) := by decide +kernel
theorem dX11_goesOn_38 : decode cX11_goesOn 38 = .ok (.iaload, 1) := by decide +kernel
theorem dX11_goesOn_39 : decode cX11_goesOn 39 = .ok (.invokevirtual 240, 3) := by decide +kernel
theorem dX11_goesOn_42 : decode cX11_goesOn 42 = .ok (.istore 5, 2) := by decide +kernel
theorem dX11_goesOn_44 : decode cX11_goesOn 44 = .ok (.iload 5, 2) := by decide +kernel
theorem dX11_goesOn_46 : decode cX11_goesOn 46 = .ok (.ldc 125, 2) := by decide +kernel
theorem dX11_goesOn_48 : decode cX11_goesOn 48 = .ok (.if_icmp .ge 10, 3) := by decide +kernel
theorem dX11_goesOn_51 : decode cX11_goesOn 51 = .ok (.iload 4, 2) := by decide +kernel
theorem dX11_goesOn_53 : decode cX11_goesOn 53 = .ok (.ldc 125, 2) := by decide +kernel
theorem dX11_goesOn_55 : decode cX11_goesOn 55 = .ok (.if_icmp .lt 8, 3) := by decide +kernel
theorem dX11_goesOn_58 : decode cX11_goesOn 58 = .ok (.ldc 125, 2) := by decide +kernel
theorem dX11_goesOn_60 : decode cX11_goesOn 60 = .ok (.goto 18, 3) := by decide +kernel
theorem dX11_goesOn_63 : decode cX11_goesOn 63 = .ok (.aload_n 0, 1) := by decide +kernel
theorem dX11_goesOn_64 : decode cX11_goesOn 64 = .ok (.iload 4, 2) := by decide +kernel
theorem dX11_goesOn_66 : decode cX11_goesOn 66 = .ok (.iload 5, 2) := by decide +kernel
theorem dX11_goesOn_68 : decode cX11_goesOn 68 = .ok (.iadd, 1) := by decide +kernel
theorem dX11_goesOn_69 : decode cX11_goesOn 69 = .ok (.aload_n 0, 1) := by decide +kernel
theorem dX11_goesOn_70 : decode cX11_goesOn 70 = .ok (.getfield 59, 3) := by decide +kernel
theorem dX11_goesOn_73 : decode cX11_goesOn 73 = .ok (.iload_n 3, 1) := by decide +kernel
theorem dX11_goesOn_74 : decode cX11_goesOn 74 = .ok (.iaload, 1) := by decide +kernel
theorem dX11_goesOn_75 : decode cX11_goesOn 75 = .ok (.invokevirtual 294, 3) := by decide +kernel
theorem dX11_goesOn_78 : decode cX11_goesOn 78 = .ok (.ireturn, 1) := by decide +kernel
theorem dX11_findSoonest_0 : decode cX11_findSoonest 0 = .ok (.iconst 1, 1) := by decide +kernel
theorem dX11_findSoonest_1 : decode cX11_findSoonest 1 = .ok (.istore_n 2, 1) := by decide +kernel
theorem dX11_findSoonest_2 : decode cX11_findSoonest 2 = .ok (.iload_n 2, 1) := by decide +kernel
theorem dX11_findSoonest_3 : decode cX11_findSoonest 3 = .ok (.iconst 1, 1) := by decide +kernel
theorem dX11_findSoonest_4 : decode cX11_findSoonest 4 = .ok (.aload_n 0, 1) := by decide +kernel
theorem dX11_findSoonest_5 : decode cX11_findSoonest 5 = .ok (.getfield 291, 3) := by decide +kernel
theorem dX11_findSoonest_8 : decode cX11_findSoonest 8 = .ok (.ishl, 1) := by decide +kernel
theorem dX11_findSoonest_9 : decode cX11_findSoonest 9 = .ok (.if_icmp .ge 137, 3) := by decide +kernel
theorem dX11_findSoonest_12 : decode cX11_findSoonest 12 = .ok (.iconst 0, 1) := by decide +kernel
theorem dX11_findSoonest_13 : decode cX11_findSoonest 13 = .ok (.istore_n 3, 1) := by decide +kernel
theorem dX11_findSoonest_14 : decode cX11_findSoonest 14 = .ok (.iload_n 3, 1) := by decide +kernel
theorem dX11_findSoonest_15 : decode cX11_findSoonest 15 = .ok (.aload_n 0, 1) := by decide +kernel
theorem dX11_findSoonest_16 : decode cX11_findSoonest 16 = .ok (.getfield 291, 3) := by decide +kernel
theorem dX11_findSoonest_19 : decode cX11_findSoonest 19 = .ok (.if_icmp .ge 121, 3) := by decide +kernel
theorem dX11_findSoonest_22 : decode cX11_findSoonest 22 = .ok (.iload_n 2, 1) := by decide +kernel
theorem dX11_findSoonest_23 : decode cX11_findSoonest 23 = .ok (.iload_n 3, 1) := by decide +kernel
theorem dX11_findSoonest_24 : decode cX11_findSoonest 24 = .ok (.ishr, 1) := by decide +kernel
theorem dX11_findSoonest_25 : decode cX11_findSoonest 25 = .ok (.iconst 1, 1) := by decide +kernel
theorem dX11_findSoonest_26 : decode cX11_findSoonest 26 = .ok (.iand, 1) := by decide +kernel
theorem dX11_findSoonest_27 : decode cX11_findSoonest 27 = .ok (.ifCond .ne 6, 3) := by decide +kernel
theorem dX11_findSoonest_30 : decode cX11_findSoonest 30 = .ok (.goto 104, 3) := by decide +kernel
theorem dX11_findSoonest_33 : decode cX11_findSoonest 33 = .ok (.iload_n 2, 1) := by decide +kernel
theorem dX11_findSoonest_34 : decode cX11_findSoonest 34 = .ok (.iconst 1, 1) := by decide +kernel
theorem dX11_findSoonest_35 : decode cX11_findSoonest 35 = .ok (.iload_n 3, 1) := by decide +kernel
theorem dX11_findSoonest_36 : decode cX11_findSoonest 36 = .ok (.ishl, 1) := by decide +kernel
theorem dX11_findSoonest_37 : decode cX11_findSoonest 37 = .ok (.isub, 1) := by decide +kernel
theorem dX11_findSoonest_38 : decode cX11_findSoonest 38 = .ok (.istore 4, 2) := by decide +kernel
theorem dX11_findSoonest_40 : decode cX11_findSoonest 40 = .ok (.iload 4, 2) := by decide +kernel
theorem dX11_findSoonest_42 : decode cX11_findSoonest 42 = .ok (.ifCond .ne 24, 3) := by decide +kernel
theorem dX11_findSoonest_45 : decode cX11_findSoonest 45 = .ok (.aload_n 0, 1) := by decide +kernel
theorem dX11_findSoonest_46 : decode cX11_findSoonest 46 = .ok (.iload_n 1, 1) := by decide +kernel
theorem dX11_findSoonest_47 : decode cX11_findSoonest 47 = .ok (.iconst (-1), 1) := by decide +kernel
theorem dX11_findSoonest_48 : decode cX11_findSoonest 48 = .ok (.iload_n 3, 1) := by decide +kernel
theorem dX11_findSoonest_49 : decode cX11_findSoonest 49 = .ok (.aload_n 0, 1) := by decide +kernel
theorem dX11_findSoonest_50 : decode cX11_findSoonest 50 = .ok (.getfield 17, 3) := by decide +kernel
theorem dX11_findSoonest_53 : decode cX11_findSoonest 53 = .ok (.iload_n 1, 1) := by decide +kernel
theorem dX11_findSoonest_54 : decode cX11_findSoonest 54 = .ok (.invokestatic 168, 3) := by decide +kernel
theorem dX11_findSoonest_57 : decode cX11_findSoonest 57 = .ok (.iconst 1, 1) := by decide +kernel
theorem dX11_findSoonest_58 : decode cX11_findSoonest 58 = .ok (.iadd, 1) := by decide +kernel
theorem dX11_findSoonest_59 : decode cX11_findSoonest 59 = .ok (.iaload, 1) := by decide +kernel
theorem dX11_findSoonest_60 : decode cX11_findSoonest 60 = .ok (.invokevirtual 297, 3) := by decide +kernel
theorem dX11_findSoonest_63 : decode cX11_findSoonest 63 = .ok (.goto 5, 3) := by decide +kernel
theorem dX11_findSoonest_66 : decode cX11_findSoonest 66 = .ok (.ldc 125, 2) := by decide +kernel
theorem dX11_findSoonest_68 : decode cX11_findSoonest 68 = .ok (.istore 5, 2) := by decide +kernel
theorem dX11_findSoonest_70 : decode cX11_findSoonest 70 = .ok (.iconst 0, 1) := by decide +kernel
theorem dX11_findSoonest_71 : decode cX11_findSoonest 71 = .ok (.istore 6, 2) := by decide +kernel
theorem dX11_findSoonest_73 : decode cX11_findSoonest 73 = .ok (.iload 6, 2) := by decide +kernel
theorem dX11_findSoonest_75 : decode cX11_findSoonest 75 = .ok (.aload_n 0, 1) := by decide +kernel
theorem dX11_findSoonest_76 : decode cX11_findSoonest 76 = .ok (.getfield 291, 3) := by decide +kernel
theorem dX11_findSoonest_79 : decode cX11_findSoonest 79 = .ok (.if_icmp .ge 45, 3) := by decide +kernel
theorem dX11_findSoonest_82 : decode cX11_findSoonest 82 = .ok (.iload 4, 2) := by decide +kernel
theorem dX11_findSoonest_84 : decode cX11_findSoonest 84 = .ok (.iload 6, 2) := by decide +kernel
theorem dX11_findSoonest_86 : decode cX11_findSoonest 86 = .ok (.ishr, 1) := by decide +kernel
theorem dX11_findSoonest_87 : decode cX11_findSoonest 87 = .ok (.iconst 1, 1) := by decide +kernel
theorem dX11_findSoonest_88 : decode cX11_findSoonest 88 = .ok (.iand, 1) := by decide +kernel
theorem dX11_findSoonest_89 : decode cX11_findSoonest 89 = .ok (.iconst 1, 1) := by decide +kernel
theorem dX11_findSoonest_90 : decode cX11_findSoonest 90 = .ok (.if_icmp .ne 28, 3) := by decide +kernel
theorem dX11_findSoonest_93 : decode cX11_findSoonest 93 = .ok (.iload 5, 2) := by decide +kernel
theorem dX11_findSoonest_95 : decode cX11_findSoonest 95 = .ok (.aload_n 0, 1) := by decide +kernel
theorem dX11_findSoonest_96 : decode cX11_findSoonest 96 = .ok (.iload_n 1, 1) := by decide +kernel
theorem dX11_findSoonest_97 : decode cX11_findSoonest 97 = .ok (.iload 6, 2) := by decide +kernel
theorem dX11_findSoonest_99 : decode cX11_findSoonest 99 = .ok (.iload_n 3, 1) := by decide +kernel
theorem dX11_findSoonest_100 : decode cX11_findSoonest 100 = .ok (.aload_n 0, 1) := by decide +kernel
theorem dX11_findSoonest_101 : decode cX11_findSoonest 101 = .ok (.getfield 56, 3) := by decide +kernel
theorem dX11_findSoonest_104 : decode cX11_findSoonest 104 = .ok (.iload 4, 2) := by decide +kernel
theorem dX11_findSoonest_106 : decode cX11_findSoonest 106 = .ok (.aaload, 1) := by decide +kernel
theorem dX11_findSoonest_107 : decode cX11_findSoonest 107 = .ok (.iload 6, 2) := by decide +kernel
theorem dX11_findSoonest_109 : decode cX11_findSoonest 109 = .ok (.iaload, 1) := by decide +kernel
theorem dX11_findSoonest_110 : decode cX11_findSoonest 110 = .ok (.invokevirtual 297, 3) := by decide +kernel
theorem dX11_findSoonest_113 : decode cX11_findSoonest 113 = .ok (.invokestatic 126, 3) := by decide +kernel
theorem dX11_findSoonest_116 : decode cX11_findSoonest 116 = .ok (.istore 5, 2) := by decide +kernel
theorem dX11_findSoonest_118 : decode cX11_findSoonest 118 = .ok (.iinc 6 1, 3) := by decide +kernel
theorem dX11_findSoonest_121 : decode cX11_findSoonest 121 = .ok (.goto (-48), 3) := by decide +kernel
theorem dX11_findSoonest_124 : decode cX11_findSoonest 124 = .ok (.aload_n 0, 1) := by decide +kernel
theorem dX11_findSoonest_125 : decode cX11_findSoonest 125 = .ok (.getfield 56, 3) := by decide +kernel
theorem dX11_findSoonest_128 : decode cX11_findSoonest 128 = .ok (.iload_n 2, 1) := by decide +kernel
theorem dX11_findSoonest_129 : decode cX11_findSoonest 129 = .ok (.aaload, 1) := by decide +kernel
theorem dX11_findSoonest_130 : decode cX11_findSoonest 130 = .ok (.iload_n 3, 1) := by decide +kernel
theorem dX11_findSoonest_131 : decode cX11_findSoonest 131 = .ok (.iload 5, 2) := by decide +kernel
theorem dX11_findSoonest_133 : decode cX11_findSoonest 133 = .ok (.iastore, 1) := by decide +kernel
theorem dX11_findSoonest_134 : decode cX11_findSoonest 134 = .ok (.iinc 3 1, 3) := by decide +kernel
theorem dX11_findSoonest_137 : decode cX11_findSoonest 137 = .ok (.goto (-123), 3) := by decide +kernel
theorem dX11_findSoonest_140 : decode cX11_findSoonest 140 = .ok (.iinc 2 1, 3) := by decide +kernel
theorem dX11_findSoonest_143 : decode cX11_findSoonest 143 = .ok (.goto (-141), 3) := by decide +kernel
theorem dX11_findSoonest_146 : decode cX11_findSoonest 146 = .ok (.return_, 1) := by decide +kernel
theorem dX11_soonestOf_0 : decode cX11_soonestOf 0 = .ok (.iload_n 2, 1) := by decide +kernel
theorem dX11_soonestOf_1 : decode cX11_soonestOf 1 = .ok (.ifCond .ne 17, 3) := by decide +kernel
theorem dX11_soonestOf_4 : decode cX11_soonestOf 4 = .ok (.aload_n 0, 1) := by decide +kernel
theorem dX11_soonestOf_5 : decode cX11_soonestOf 5 = .ok (.getfield 17, 3) := by decide +kernel
theorem dX11_soonestOf_8 : decode cX11_soonestOf 8 = .ok (.iload_n 1, 1) := by decide +kernel
theorem dX11_soonestOf_9 : decode cX11_soonestOf 9 = .ok (.invokestatic 168, 3) := by decide +kernel
theorem dX11_soonestOf_12 : decode cX11_soonestOf 12 = .ok (.iconst 1, 1) := by decide +kernel
theorem dX11_soonestOf_13 : decode cX11_soonestOf 13 = .ok (.iadd, 1) := by decide +kernel
theorem dX11_soonestOf_14 : decode cX11_soonestOf 14 = .ok (.iaload, 1) := by decide +kernel
theorem dX11_soonestOf_15 : decode cX11_soonestOf 15 = .ok (.goto 5, 3) := by decide +kernel
theorem dX11_soonestOf_18 : decode cX11_soonestOf 18 = .ok (.ldc 125, 2) := by decide +kernel
theorem dX11_soonestOf_20 : decode cX11_soonestOf 20 = .ok (.istore_n 3, 1) := by decide +kernel
theorem dX11_soonestOf_21 : decode cX11_soonestOf 21 = .ok (.iconst 0, 1) := by decide +kernel
theorem dX11_soonestOf_22 : decode cX11_soonestOf 22 = .ok (.istore 4, 2) := by decide +kernel
theorem dX11_soonestOf_24 : decode cX11_soonestOf 24 = .ok (.iload 4, 2) := by decide +kernel
theorem dX11_soonestOf_26 : decode cX11_soonestOf 26 = .ok (.aload_n 0, 1) := by decide +kernel
theorem dX11_soonestOf_27 : decode cX11_soonestOf 27 = .ok (.getfield 291, 3) := by decide +kernel
theorem dX11_soonestOf_30 : decode cX11_soonestOf 30 = .ok (.if_icmp .ge 33, 3) := by decide +kernel
theorem dX11_soonestOf_33 : decode cX11_soonestOf 33 = .ok (.iload_n 2, 1) := by decide +kernel
theorem dX11_soonestOf_34 : decode cX11_soonestOf 34 = .ok (.iload 4, 2) := by decide +kernel
theorem dX11_soonestOf_36 : decode cX11_soonestOf 36 = .ok (.ishr, 1) := by decide +kernel
theorem dX11_soonestOf_37 : decode cX11_soonestOf 37 = .ok (.iconst 1, 1) := by decide +kernel
theorem dX11_soonestOf_38 : decode cX11_soonestOf 38 = .ok (.iand, 1) := by decide +kernel
theorem dX11_soonestOf_39 : decode cX11_soonestOf 39 = .ok (.iconst 1, 1) := by decide +kernel
theorem dX11_soonestOf_40 : decode cX11_soonestOf 40 = .ok (.if_icmp .ne 17, 3) := by decide +kernel
theorem dX11_soonestOf_43 : decode cX11_soonestOf 43 = .ok (.iload_n 3, 1) := by decide +kernel
theorem dX11_soonestOf_44 : decode cX11_soonestOf 44 = .ok (.aload_n 0, 1) := by decide +kernel
theorem dX11_soonestOf_45 : decode cX11_soonestOf 45 = .ok (.getfield 56, 3) := by decide +kernel
theorem dX11_soonestOf_48 : decode cX11_soonestOf 48 = .ok (.iload_n 2, 1) := by decide +kernel
theorem dX11_soonestOf_49 : decode cX11_soonestOf 49 = .ok (.aaload, 1) := by decide +kernel
theorem dX11_soonestOf_50 : decode cX11_soonestOf 50 = .ok (.iload 4, 2) := by decide +kernel
theorem dX11_soonestOf_52 : decode cX11_soonestOf 52 = .ok (.iaload, 1) := by decide +kernel
theorem dX11_soonestOf_53 : decode cX11_soonestOf 53 = .ok (.invokestatic 126, 3) := by decide +kernel
theorem dX11_soonestOf_56 : decode cX11_soonestOf 56 = .ok (.istore_n 3, 1) := by decide +kernel
theorem dX11_soonestOf_57 : decode cX11_soonestOf 57 = .ok (.iinc 4 1, 3) := by decide +kernel
theorem dX11_soonestOf_60 : decode cX11_soonestOf 60 = .ok (.goto (-36), 3) := by decide +kernel
theorem dX11_soonestOf_63 : decode cX11_soonestOf 63 = .ok (.iload_n 3, 1) := by decide +kernel
theorem dX11_soonestOf_64 : decode cX11_soonestOf 64 = .ok (.ireturn, 1) := by decide +kernel
theorem dX11_soonest_0 : decode cX11_soonest 0 = .ok (.aload_n 0, 1) := by decide +kernel
theorem dX11_soonest_1 : decode cX11_soonest 1 = .ok (.iconst 0, 1) := by decide +kernel
theorem dX11_soonest_2 : decode cX11_soonest 2 = .ok (.putfield 71, 3) := by decide +kernel
theorem dX11_soonest_5 : decode cX11_soonest 5 = .ok (.aload_n 0, 1) := by decide +kernel
theorem dX11_soonest_6 : decode cX11_soonest 6 = .ok (.iload_n 1, 1) := by decide +kernel
theorem dX11_soonest_7 : decode cX11_soonest 7 = .ok (.invokevirtual 279, 3) := by decide +kernel
theorem dX11_soonest_10 : decode cX11_soonest 10 = .ok (.ifCond .ne 24, 3) := by decide +kernel
theorem dX11_soonest_13 : decode cX11_soonest 13 = .ok (.aload_n 0, 1) := by decide +kernel
theorem dX11_soonest_14 : decode cX11_soonest 14 = .ok (.aload_n 0, 1) := by decide +kernel
theorem dX11_soonest_15 : decode cX11_soonest 15 = .ok (.iload_n 2, 1) := by decide +kernel
theorem dX11_soonest_16 : decode cX11_soonest 16 = .ok (.invokevirtual 301, 3) := by decide +kernel
theorem dX11_soonest_19 : decode cX11_soonest 19 = .ok (.ifCond .ne 7, 3) := by decide +kernel
theorem dX11_soonest_22 : decode cX11_soonest 22 = .ok (.iconst 1, 1) := by decide +kernel
theorem dX11_soonest_23 : decode cX11_soonest 23 = .ok (.goto 4, 3) := by decide +kernel
theorem dX11_soonest_26 : decode cX11_soonest 26 = .ok (.iconst 0, 1) := by decide +kernel
theorem dX11_soonest_27 : decode cX11_soonest 27 = .ok (.iconst 2, 1) := by decide +kernel
theorem dX11_soonest_28 : decode cX11_soonest 28 = .ok (.invokevirtual 195, 3) := by decide +kernel
theorem dX11_soonest_31 : decode cX11_soonest 31 = .ok (.ifCond .eq 5, 3) := by decide +kernel
theorem dX11_soonest_34 : decode cX11_soonest 34 = .ok (.iconst 0, 1) := by decide +kernel
theorem dX11_soonest_35 : decode cX11_soonest 35 = .ok (.ireturn, 1) := by decide +kernel
theorem dX11_soonest_36 : decode cX11_soonest 36 = .ok (.aload_n 0, 1) := by decide +kernel
theorem dX11_soonest_37 : decode cX11_soonest 37 = .ok (.invokevirtual 249, 3) := by decide +kernel
theorem dX11_soonest_40 : decode cX11_soonest 40 = .ok (.aload_n 0, 1) := by decide +kernel
theorem dX11_soonest_41 : decode cX11_soonest 41 = .ok (.iload_n 2, 1) := by decide +kernel
theorem dX11_soonest_42 : decode cX11_soonest 42 = .ok (.invokevirtual 304, 3) := by decide +kernel
theorem dX11_soonest_45 : decode cX11_soonest 45 = .ok (.aload_n 0, 1) := by decide +kernel
theorem dX11_soonest_46 : decode cX11_soonest 46 = .ok (.iload_n 1, 1) := by decide +kernel
theorem dX11_soonest_47 : decode cX11_soonest 47 = .ok (.invokevirtual 307, 3) := by decide +kernel
theorem dX11_soonest_50 : decode cX11_soonest 50 = .ok (.aload_n 0, 1) := by decide +kernel
theorem dX11_soonest_51 : decode cX11_soonest 51 = .ok (.iload_n 1, 1) := by decide +kernel
theorem dX11_soonest_52 : decode cX11_soonest 52 = .ok (.iconst 1, 1) := by decide +kernel
theorem dX11_soonest_53 : decode cX11_soonest 53 = .ok (.aload_n 0, 1) := by decide +kernel
theorem dX11_soonest_54 : decode cX11_soonest 54 = .ok (.getfield 291, 3) := by decide +kernel
theorem dX11_soonest_57 : decode cX11_soonest 57 = .ok (.ishl, 1) := by decide +kernel
theorem dX11_soonest_58 : decode cX11_soonest 58 = .ok (.iconst 1, 1) := by decide +kernel
theorem dX11_soonest_59 : decode cX11_soonest 59 = .ok (.isub, 1) := by decide +kernel
theorem dX11_soonest_60 : decode cX11_soonest 60 = .ok (.invokevirtual 310, 3) := by decide +kernel
theorem dX11_soonest_63 : decode cX11_soonest 63 = .ok (.invokestatic 273, 3) := by decide +kernel
theorem dX11_soonest_66 : decode cX11_soonest 66 = .ok (.ireturn, 1) := by decide +kernel
theorem dX11_tryOrders_0 : decode cX11_tryOrders 0 = .ok (.iload_n 2, 1) := by decide +kernel
theorem dX11_tryOrders_1 : decode cX11_tryOrders 1 = .ok (.aload_n 0, 1) := by decide +kernel
theorem dX11_tryOrders_2 : decode cX11_tryOrders 2 = .ok (.getfield 291, 3) := by decide +kernel
theorem dX11_tryOrders_5 : decode cX11_tryOrders 5 = .ok (.if_icmp .ne 20, 3) := by decide +kernel
theorem dX11_tryOrders_8 : decode cX11_tryOrders 8 = .ok (.aload_n 0, 1) := by decide +kernel
theorem dX11_tryOrders_9 : decode cX11_tryOrders 9 = .ok (.iload 4, 2) := by decide +kernel
theorem dX11_tryOrders_11 : decode cX11_tryOrders 11 = .ok (.iload 5, 2) := by decide +kernel
theorem dX11_tryOrders_13 : decode cX11_tryOrders 13 = .ok (.if_icmp .ne 7, 3) := by decide +kernel
theorem dX11_tryOrders_16 : decode cX11_tryOrders 16 = .ok (.iconst 1, 1) := by decide +kernel
theorem dX11_tryOrders_17 : decode cX11_tryOrders 17 = .ok (.goto 4, 3) := by decide +kernel
theorem dX11_tryOrders_20 : decode cX11_tryOrders 20 = .ok (.iconst 0, 1) := by decide +kernel
theorem dX11_tryOrders_21 : decode cX11_tryOrders 21 = .ok (.putfield 313, 3) := by decide +kernel
theorem dX11_tryOrders_24 : decode cX11_tryOrders 24 = .ok (.return_, 1) := by decide +kernel
theorem dX11_tryOrders_25 : decode cX11_tryOrders 25 = .ok (.iconst 0, 1) := by decide +kernel
theorem dX11_tryOrders_26 : decode cX11_tryOrders 26 = .ok (.istore 6, 2) := by decide +kernel
theorem dX11_tryOrders_28 : decode cX11_tryOrders 28 = .ok (.iload 6, 2) := by decide +kernel
theorem dX11_tryOrders_30 : decode cX11_tryOrders 30 = .ok (.aload_n 0, 1) := by decide +kernel
theorem dX11_tryOrders_31 : decode cX11_tryOrders 31 = .ok (.getfield 291, 3) := by decide +kernel
theorem dX11_tryOrders_34 : decode cX11_tryOrders 34 = .ok (.if_icmp .ge 92, 3) := by decide +kernel
theorem dX11_tryOrders_37 : decode cX11_tryOrders 37 = .ok (.aload_n 0, 1) := by decide +kernel
theorem dX11_tryOrders_38 : decode cX11_tryOrders 38 = .ok (.getfield 313, 3) := by decide +kernel
theorem dX11_tryOrders_41 : decode cX11_tryOrders 41 = .ok (.ifCond .ne 85, 3) := by decide +kernel
theorem dX11_tryOrders_44 : decode cX11_tryOrders 44 = .ok (.iload_n 3, 1) := by decide +kernel
theorem dX11_tryOrders_45 : decode cX11_tryOrders 45 = .ok (.iload 6, 2) := by decide +kernel
theorem dX11_tryOrders_47 : decode cX11_tryOrders 47 = .ok (.ishr, 1) := by decide +kernel
theorem dX11_tryOrders_48 : decode cX11_tryOrders 48 = .ok (.iconst 1, 1) := by decide +kernel
theorem dX11_tryOrders_49 : decode cX11_tryOrders 49 = .ok (.iand, 1) := by decide +kernel
theorem dX11_tryOrders_50 : decode cX11_tryOrders 50 = .ok (.iconst 1, 1) := by decide +kernel
theorem dX11_tryOrders_51 : decode cX11_tryOrders 51 = .ok (.if_icmp .ne 6, 3) := by decide +kernel
theorem dX11_tryOrders_54 : decode cX11_tryOrders 54 = .ok (.goto 66, 3) := by decide +kernel
theorem dX11_tryOrders_57 : decode cX11_tryOrders 57 = .ok (.aload_n 0, 1) := by decide +kernel
theorem dX11_tryOrders_58 : decode cX11_tryOrders 58 = .ok (.iload_n 1, 1) := by decide +kernel
theorem dX11_tryOrders_59 : decode cX11_tryOrders 59 = .ok (.iload_n 2, 1) := by decide +kernel
theorem dX11_tryOrders_60 : decode cX11_tryOrders 60 = .ok (.ifCond .ne 7, 3) := by decide +kernel
theorem dX11_tryOrders_63 : decode cX11_tryOrders 63 = .ok (.iconst (-1), 1) := by decide +kernel
theorem dX11_tryOrders_64 : decode cX11_tryOrders 64 = .ok (.goto 11, 3) := by decide +kernel
theorem dX11_tryOrders_67 : decode cX11_tryOrders 67 = .ok (.aload_n 0, 1) := by decide +kernel
theorem dX11_tryOrders_68 : decode cX11_tryOrders 68 = .ok (.getfield 62, 3) := by decide +kernel
theorem dX11_tryOrders_71 : decode cX11_tryOrders 71 = .ok (.iload_n 2, 1) := by decide +kernel
theorem dX11_tryOrders_72 : decode cX11_tryOrders 72 = .ok (.iconst 1, 1) := by decide +kernel
theorem dX11_tryOrders_73 : decode cX11_tryOrders 73 = .ok (.isub, 1) := by decide +kernel
theorem dX11_tryOrders_74 : decode cX11_tryOrders 74 = .ok (.iaload, 1) := by decide +kernel
theorem dX11_tryOrders_75 : decode cX11_tryOrders 75 = .ok (.iload 6, 2) := by decide +kernel
theorem dX11_tryOrders_77 : decode cX11_tryOrders 77 = .ok (.iload 4, 2) := by decide +kernel
theorem dX11_tryOrders_79 : decode cX11_tryOrders 79 = .ok (.invokevirtual 297, 3) := by decide +kernel
theorem dX11_tryOrders_82 : decode cX11_tryOrders 82 = .ok (.istore 7, 2) := by decide +kernel
theorem dX11_tryOrders_84 : decode cX11_tryOrders 84 = .ok (.iload 7, 2) := by decide +kernel
theorem dX11_tryOrders_86 : decode cX11_tryOrders 86 = .ok (.iload 5, 2) := by decide +kernel
theorem dX11_tryOrders_88 : decode cX11_tryOrders 88 = .ok (.if_icmp .le 6, 3) := by decide +kernel
theorem dX11_tryOrders_91 : decode cX11_tryOrders 91 = .ok (.goto 29, 3) := by decide +kernel
theorem dX11_tryOrders_94 : decode cX11_tryOrders 94 = .ok (.aload_n 0, 1) := by decide +kernel
theorem dX11_tryOrders_95 : decode cX11_tryOrders 95 = .ok (.getfield 62, 3) := by decide +kernel
theorem dX11_tryOrders_98 : decode cX11_tryOrders 98 = .ok (.iload_n 2, 1) := by decide +kernel
theorem dX11_tryOrders_99 : decode cX11_tryOrders 99 = .ok (.iload 6, 2) := by decide +kernel
theorem dX11_tryOrders_101 : decode cX11_tryOrders 101 = .ok (.iastore, 1) := by decide +kernel
theorem dX11_tryOrders_102 : decode cX11_tryOrders 102 = .ok (.aload_n 0, 1) := by decide +kernel
theorem dX11_tryOrders_103 : decode cX11_tryOrders 103 = .ok (.iload_n 1, 1) := by decide +kernel
theorem dX11_tryOrders_104 : decode cX11_tryOrders 104 = .ok (.iload_n 2, 1) := by decide +kernel
theorem dX11_tryOrders_105 : decode cX11_tryOrders 105 = .ok (.iconst 1, 1) := by decide +kernel
theorem dX11_tryOrders_106 : decode cX11_tryOrders 106 = .ok (.iadd, 1) := by decide +kernel
theorem dX11_tryOrders_107 : decode cX11_tryOrders 107 = .ok (.iload_n 3, 1) := by decide +kernel
theorem dX11_tryOrders_108 : decode cX11_tryOrders 108 = .ok (.iconst 1, 1) := by decide +kernel
theorem dX11_tryOrders_109 : decode cX11_tryOrders 109 = .ok (.iload 6, 2) := by decide +kernel
theorem dX11_tryOrders_111 : decode cX11_tryOrders 111 = .ok (.ishl, 1) := by decide +kernel
theorem dX11_tryOrders_112 : decode cX11_tryOrders 112 = .ok (.ior, 1) := by decide +kernel
theorem dX11_tryOrders_113 : decode cX11_tryOrders 113 = .ok (.iload 7, 2) := by decide +kernel
theorem dX11_tryOrders_115 : decode cX11_tryOrders 115 = .ok (.iload 5, 2) := by decide +kernel
theorem dX11_tryOrders_117 : decode cX11_tryOrders 117 = .ok (.invokevirtual 317, 3) := by decide +kernel
theorem dX11_tryOrders_120 : decode cX11_tryOrders 120 = .ok (.iinc 6 1, 3) := by decide +kernel
theorem dX11_tryOrders_123 : decode cX11_tryOrders 123 = .ok (.goto (-95), 3) := by decide +kernel
theorem dX11_tryOrders_126 : decode cX11_tryOrders 126 = .ok (.return_, 1) := by decide +kernel
theorem dX11_soonestOrder_0 : decode cX11_soonestOrder 0 = .ok (.aload_n 0, 1) := by decide +kernel
theorem dX11_soonestOrder_1 : decode cX11_soonestOrder 1 = .ok (.iconst 0, 1) := by decide +kernel
theorem dX11_soonestOrder_2 : decode cX11_soonestOrder 2 = .ok (.putfield 71, 3) := by decide +kernel
theorem dX11_soonestOrder_5 : decode cX11_soonestOrder 5 = .ok (.aload_n 0, 1) := by decide +kernel
theorem dX11_soonestOrder_6 : decode cX11_soonestOrder 6 = .ok (.iload_n 1, 1) := by decide +kernel
theorem dX11_soonestOrder_7 : decode cX11_soonestOrder 7 = .ok (.invokevirtual 279, 3) := by decide +kernel
theorem dX11_soonestOrder_10 : decode cX11_soonestOrder 10 = .ok (.ifCond .ne 28, 3) := by decide +kernel
theorem dX11_soonestOrder_13 : decode cX11_soonestOrder 13 = .ok (.aload_n 0, 1) := by decide +kernel
theorem dX11_soonestOrder_14 : decode cX11_soonestOrder 14 = .ok (.aload_n 0, 1) := by decide +kernel
theorem dX11_soonestOrder_15 : decode cX11_soonestOrder 15 = .ok (.iload_n 2, 1) := by decide +kernel
theorem dX11_soonestOrder_16 : decode cX11_soonestOrder 16 = .ok (.invokevirtual 301, 3) := by decide +kernel
theorem dX11_soonestOrder_19 : decode cX11_soonestOrder 19 = .ok (.ifCond .eq 7, 3) := by decide +kernel
theorem dX11_soonestOrder_22 : decode cX11_soonestOrder 22 = .ok (.iload_n 3, 1) := by decide +kernel
theorem dX11_soonestOrder_23 : decode cX11_soonestOrder 23 = .ok (.ifCond .ge 7, 3) := by decide +kernel
theorem dX11_soonestOrder_26 : decode cX11_soonestOrder 26 = .ok (.iconst 1, 1) := by decide +kernel
theorem dX11_soonestOrder_27 : decode cX11_soonestOrder 27 = .ok (.goto 4, 3) := by decide +kernel
theorem dX11_soonestOrder_30 : decode cX11_soonestOrder 30 = .ok (.iconst 0, 1) := by decide +kernel
theorem dX11_soonestOrder_31 : decode cX11_soonestOrder 31 = .ok (.iconst 2, 1) := by decide +kernel
theorem dX11_soonestOrder_32 : decode cX11_soonestOrder 32 = .ok (.invokevirtual 195, 3) := by decide +kernel
theorem dX11_soonestOrder_35 : decode cX11_soonestOrder 35 = .ok (.ifCond .eq 5, 3) := by decide +kernel
theorem dX11_soonestOrder_38 : decode cX11_soonestOrder 38 = .ok (.iconst 0, 1) := by decide +kernel
theorem dX11_soonestOrder_39 : decode cX11_soonestOrder 39 = .ok (.ireturn, 1) := by decide +kernel
theorem dX11_soonestOrder_40 : decode cX11_soonestOrder 40 = .ok (.aload_n 0, 1) := by decide +kernel
theorem dX11_soonestOrder_41 : decode cX11_soonestOrder 41 = .ok (.invokevirtual 249, 3) := by decide +kernel
theorem dX11_soonestOrder_44 : decode cX11_soonestOrder 44 = .ok (.aload_n 0, 1) := by decide +kernel
theorem dX11_soonestOrder_45 : decode cX11_soonestOrder 45 = .ok (.iload_n 2, 1) := by decide +kernel
theorem dX11_soonestOrder_46 : decode cX11_soonestOrder 46 = .ok (.invokevirtual 304, 3) := by decide +kernel
theorem dX11_soonestOrder_49 : decode cX11_soonestOrder 49 = .ok (.aload_n 0, 1) := by decide +kernel
theorem dX11_soonestOrder_50 : decode cX11_soonestOrder 50 = .ok (.iload_n 1, 1) := by decide +kernel
theorem dX11_soonestOrder_51 : decode cX11_soonestOrder 51 = .ok (.invokevirtual 307, 3) := by decide +kernel
theorem dX11_soonestOrder_54 : decode cX11_soonestOrder 54 = .ok (.aload_n 0, 1) := by decide +kernel
theorem dX11_soonestOrder_55 : decode cX11_soonestOrder 55 = .ok (.iload_n 1, 1) := by decide +kernel
theorem dX11_soonestOrder_56 : decode cX11_soonestOrder 56 = .ok (.iconst 1, 1) := by decide +kernel
theorem dX11_soonestOrder_57 : decode cX11_soonestOrder 57 = .ok (.aload_n 0, 1) := by decide +kernel
theorem dX11_soonestOrder_58 : decode cX11_soonestOrder 58 = .ok (.getfield 291, 3) := by decide +kernel
theorem dX11_soonestOrder_61 : decode cX11_soonestOrder 61 = .ok (.ishl, 1) := by decide +kernel
theorem dX11_soonestOrder_62 : decode cX11_soonestOrder 62 = .ok (.iconst 1, 1) := by decide +kernel
theorem dX11_soonestOrder_63 : decode cX11_soonestOrder 63 = .ok (.isub, 1) := by decide +kernel
theorem dX11_soonestOrder_64 : decode cX11_soonestOrder 64 = .ok (.invokevirtual 310, 3) := by decide +kernel
theorem dX11_soonestOrder_67 : decode cX11_soonestOrder 67 = .ok (.istore 4, 2) := by decide +kernel
theorem dX11_soonestOrder_69 : decode cX11_soonestOrder 69 = .ok (.iload 4, 2) := by decide +kernel
theorem dX11_soonestOrder_71 : decode cX11_soonestOrder 71 = .ok (.ldc 125, 2) := by decide +kernel
theorem dX11_soonestOrder_73 : decode cX11_soonestOrder 73 = .ok (.if_icmp .ge 11, 3) := by decide +kernel
theorem dX11_soonestOrder_76 : decode cX11_soonestOrder 76 = .ok (.iload_n 3, 1) := by decide +kernel
theorem dX11_soonestOrder_77 : decode cX11_soonestOrder 77 = .ok (.aload_n 0, 1) := by decide +kernel
theorem dX11_soonestOrder_78 : decode cX11_soonestOrder 78 = .ok (.getfield 291, 3) := by decide +kernel
theorem dX11_soonestOrder_81 : decode cX11_soonestOrder 81 = .ok (.if_icmp .lt 5, 3) := by decide +kernel
theorem dX11_soonestOrder_84 : decode cX11_soonestOrder 84 = .ok (.iconst (-1), 1) := by decide +kernel
theorem dX11_soonestOrder_85 : decode cX11_soonestOrder 85 = .ok (.ireturn, 1) := by decide +kernel
theorem dX11_soonestOrder_86 : decode cX11_soonestOrder 86 = .ok (.aload_n 0, 1) := by decide +kernel
theorem dX11_soonestOrder_87 : decode cX11_soonestOrder 87 = .ok (.iconst 0, 1) := by decide +kernel
theorem dX11_soonestOrder_88 : decode cX11_soonestOrder 88 = .ok (.putfield 313, 3) := by decide +kernel
theorem dX11_soonestOrder_91 : decode cX11_soonestOrder 91 = .ok (.aload_n 0, 1) := by decide +kernel
theorem dX11_soonestOrder_92 : decode cX11_soonestOrder 92 = .ok (.iload_n 1, 1) := by decide +kernel
theorem dX11_soonestOrder_93 : decode cX11_soonestOrder 93 = .ok (.iconst 0, 1) := by decide +kernel
theorem dX11_soonestOrder_94 : decode cX11_soonestOrder 94 = .ok (.iconst 0, 1) := by decide +kernel
theorem dX11_soonestOrder_95 : decode cX11_soonestOrder 95 = .ok (.aload_n 0, 1) := by decide +kernel
theorem dX11_soonestOrder_96 : decode cX11_soonestOrder 96 = .ok (.getfield 17, 3) := by decide +kernel
theorem dX11_soonestOrder_99 : decode cX11_soonestOrder 99 = .ok (.iload_n 1, 1) := by decide +kernel
theorem dX11_soonestOrder_100 : decode cX11_soonestOrder 100 = .ok (.invokestatic 168, 3) := by decide +kernel
theorem dX11_soonestOrder_103 : decode cX11_soonestOrder 103 = .ok (.iconst 1, 1) := by decide +kernel
theorem dX11_soonestOrder_104 : decode cX11_soonestOrder 104 = .ok (.iadd, 1) := by decide +kernel
theorem dX11_soonestOrder_105 : decode cX11_soonestOrder 105 = .ok (.iaload, 1) := by decide +kernel
theorem dX11_soonestOrder_106 : decode cX11_soonestOrder 106 = .ok (.iload 4, 2) := by decide +kernel
theorem dX11_soonestOrder_108 : decode cX11_soonestOrder 108 = .ok (.invokevirtual 317, 3) := by decide +kernel
theorem dX11_soonestOrder_111 : decode cX11_soonestOrder 111 = .ok (.aload_n 0, 1) := by decide +kernel
theorem dX11_soonestOrder_112 : decode cX11_soonestOrder 112 = .ok (.getfield 59, 3) := by decide +kernel
theorem dX11_soonestOrder_115 : decode cX11_soonestOrder 115 = .ok (.aload_n 0, 1) := by decide +kernel
theorem dX11_soonestOrder_116 : decode cX11_soonestOrder 116 = .ok (.getfield 62, 3) := by decide +kernel
theorem dX11_soonestOrder_119 : decode cX11_soonestOrder 119 = .ok (.iload_n 3, 1) := by decide +kernel
theorem dX11_soonestOrder_120 : decode cX11_soonestOrder 120 = .ok (.iaload, 1) := by decide +kernel
theorem dX11_soonestOrder_121 : decode cX11_soonestOrder 121 = .ok (.iaload, 1) := by decide +kernel
theorem dX11_soonestOrder_122 : decode cX11_soonestOrder 122 = .ok (.ireturn, 1) := by decide +kernel
theorem dX11_divide_0 : decode cX11_divide 0 = .ok (.aload_n 0, 1) := by decide +kernel
theorem dX11_divide_1 : decode cX11_divide 1 = .ok (.invokevirtual 249, 3) := by decide +kernel
theorem dX11_divide_4 : decode cX11_divide 4 = .ok (.aload_n 0, 1) := by decide +kernel
theorem dX11_divide_5 : decode cX11_divide 5 = .ok (.iload_n 1, 1) := by decide +kernel
theorem dX11_divide_6 : decode cX11_divide 6 = .ok (.invokevirtual 304, 3) := by decide +kernel
theorem dX11_divide_9 : decode cX11_divide 9 = .ok (.aload_n 0, 1) := by decide +kernel
theorem dX11_divide_10 : decode cX11_divide 10 = .ok (.getfield 17, 3) := by decide +kernel
theorem dX11_divide_13 : decode cX11_divide 13 = .ok (.iconst 3, 1) := by decide +kernel
theorem dX11_divide_14 : decode cX11_divide 14 = .ok (.iaload, 1) := by decide +kernel
theorem dX11_divide_15 : decode cX11_divide 15 = .ok (.istore_n 2, 1) := by decide +kernel
theorem dX11_divide_16 : decode cX11_divide 16 = .ok (.iconst 1, 1) := by decide +kernel
theorem dX11_divide_17 : decode cX11_divide 17 = .ok (.istore_n 3, 1) := by decide +kernel
theorem dX11_divide_18 : decode cX11_divide 18 = .ok (.iconst 0, 1) := by decide +kernel
theorem dX11_divide_19 : decode cX11_divide 19 = .ok (.istore 4, 2) := by decide +kernel
theorem dX11_divide_21 : decode cX11_divide 21 = .ok (.iload 4, 2) := by decide +kernel
theorem dX11_divide_23 : decode cX11_divide 23 = .ok (.iload_n 2, 1) := by decide +kernel
theorem dX11_divide_24 : decode cX11_divide 24 = .ok (.if_icmp .ge 53, 3) := by decide +kernel
theorem dX11_divide_27 : decode cX11_divide 27 = .ok (.aload_n 0, 1) := by decide +kernel
theorem dX11_divide_28 : decode cX11_divide 28 = .ok (.iload 4, 2) := by decide +kernel
theorem dX11_divide_30 : decode cX11_divide 30 = .ok (.invokevirtual 307, 3) := by decide +kernel
theorem dX11_divide_33 : decode cX11_divide 33 = .ok (.iconst 0, 1) := by decide +kernel
theorem dX11_divide_34 : decode cX11_divide 34 = .ok (.istore 5, 2) := by decide +kernel
theorem dX11_divide_36 : decode cX11_divide 36 = .ok (.iload 5, 2) := by decide +kernel
theorem dX11_divide_38 : decode cX11_divide 38 = .ok (.iconst 1, 1) := by decide +kernel
theorem dX11_divide_39 : decode cX11_divide 39 = .ok (.aload_n 0, 1) := by decide +kernel
theorem dX11_divide_40 : decode cX11_divide 40 = .ok (.getfield 291, 3) := by decide +kernel
theorem dX11_divide_43 : decode cX11_divide 43 = .ok (.ishl, 1) := by decide +kernel
theorem dX11_divide_44 : decode cX11_divide 44 = .ok (.if_icmp .ge 27, 3) := by decide +kernel
theorem dX11_divide_47 : decode cX11_divide 47 = .ok (.aload_n 0, 1) := by decide +kernel
theorem dX11_divide_48 : decode cX11_divide 48 = .ok (.getfield 65, 3) := by decide +kernel
theorem dX11_divide_51 : decode cX11_divide 51 = .ok (.iload 4, 2) := by decide +kernel
theorem dX11_divide_53 : decode cX11_divide 53 = .ok (.aaload, 1) := by decide +kernel
theorem dX11_divide_54 : decode cX11_divide 54 = .ok (.iload 5, 2) := by decide +kernel
theorem dX11_divide_56 : decode cX11_divide 56 = .ok (.aload_n 0, 1) := by decide +kernel
theorem dX11_divide_57 : decode cX11_divide 57 = .ok (.iload 4, 2) := by decide +kernel
theorem dX11_divide_59 : decode cX11_divide 59 = .ok (.iload 5, 2) := by decide +kernel
theorem dX11_divide_61 : decode cX11_divide 61 = .ok (.invokevirtual 310, 3) := by decide +kernel
theorem dX11_divide_64 : decode cX11_divide 64 = .ok (.iastore, 1) := by decide +kernel
theorem dX11_divide_65 : decode cX11_divide 65 = .ok (.iinc 5 1, 3) := by decide +kernel
theorem dX11_divide_68 : decode cX11_divide 68 = .ok (.goto (-32), 3) := by decide +kernel
theorem dX11_divide_71 : decode cX11_divide 71 = .ok (.iinc 4 1, 3) := by decide +kernel
theorem dX11_divide_74 : decode cX11_divide 74 = .ok (.goto (-53), 3) := by decide +kernel
theorem dX11_divide_77 : decode cX11_divide 77 = .ok (.iconst 0, 1) := by decide +kernel
theorem dX11_divide_78 : decode cX11_divide 78 = .ok (.istore 4, 2) := by decide +kernel
theorem dX11_divide_80 : decode cX11_divide 80 = .ok (.iload 4, 2) := by decide +kernel
theorem dX11_divide_82 : decode cX11_divide 82 = .ok (.aload_n 0, 1) := by decide +kernel
theorem dX11_divide_83 : decode cX11_divide 83 = .ok (.getfield 291, 3) := by decide +kernel
theorem dX11_divide_86 : decode cX11_divide 86 = .ok (.if_icmp .ge 13, 3) := by decide +kernel
theorem dX11_divide_89 : decode cX11_divide 89 = .ok (.iload_n 3, 1) := by decide +kernel
theorem dX11_divide_90 : decode cX11_divide 90 = .ok (.iload_n 2, 1) := by decide +kernel
theorem dX11_divide_91 : decode cX11_divide 91 = .ok (.imul, 1) := by decide +kernel
theorem dX11_divide_92 : decode cX11_divide 92 = .ok (.istore_n 3, 1) := by decide +kernel
theorem dX11_divide_93 : decode cX11_divide 93 = .ok (.iinc 4 1, 3) := by decide +kernel
theorem dX11_divide_96 : decode cX11_divide 96 = .ok (.goto (-16), 3) := by decide +kernel
theorem dX11_divide_99 : decode cX11_divide 99 = .ok (.aload_n 0, 1) := by decide +kernel
theorem dX11_divide_100 : decode cX11_divide 100 = .ok (.ldc 125, 2) := by decide +kernel
theorem dX11_divide_102 : decode cX11_divide 102 = .ok (.putfield 321, 3) := by decide +kernel
theorem dX11_divide_105 : decode cX11_divide 105 = .ok (.aload_n 0, 1) := by decide +kernel
theorem dX11_divide_106 : decode cX11_divide 106 = .ok (.iconst (-1), 1) := by decide +kernel
theorem dX11_divide_107 : decode cX11_divide 107 = .ok (.putfield 324, 3) := by decide +kernel
theorem dX11_divide_110 : decode cX11_divide 110 = .ok (.iconst 0, 1) := by decide +kernel
theorem dX11_divide_111 : decode cX11_divide 111 = .ok (.istore 4, 2) := by decide +kernel
theorem dX11_divide_113 : decode cX11_divide 113 = .ok (.iload 4, 2) := by decide +kernel
theorem dX11_divide_115 : decode cX11_divide 115 = .ok (.iload_n 3, 1) := by decide +kernel
theorem dX11_divide_116 : decode cX11_divide 116 = .ok (.if_icmp .ge 41, 3) := by decide +kernel
theorem dX11_divide_119 : decode cX11_divide 119 = .ok (.aload_n 0, 1) := by decide +kernel
theorem dX11_divide_120 : decode cX11_divide 120 = .ok (.iload 4, 2) := by decide +kernel
theorem dX11_divide_122 : decode cX11_divide 122 = .ok (.invokevirtual 327, 3) := by decide +kernel
theorem dX11_divide_125 : decode cX11_divide 125 = .ok (.istore 5, 2) := by decide +kernel
theorem dX11_divide_127 : decode cX11_divide 127 = .ok (.iload 5, 2) := by decide +kernel
theorem dX11_divide_129 : decode cX11_divide 129 = .ok (.aload_n 0, 1) := by decide +kernel
theorem dX11_divide_130 : decode cX11_divide 130 = .ok (.getfield 321, 3) := by decide +kernel
theorem dX11_divide_133 : decode cX11_divide 133 = .ok (.if_icmp .lt 6, 3) := by decide +kernel
theorem dX11_divide_136 : decode cX11_divide 136 = .ok (.goto 15, 3) := by decide +kernel
theorem dX11_divide_139 : decode cX11_divide 139 = .ok (.aload_n 0, 1) := by decide +kernel
theorem dX11_divide_140 : decode cX11_divide 140 = .ok (.iload 5, 2) := by decide +kernel
theorem dX11_divide_142 : decode cX11_divide 142 = .ok (.putfield 321, 3) := by decide +kernel
theorem dX11_divide_145 : decode cX11_divide 145 = .ok (.aload_n 0, 1) := by decide +kernel
theorem dX11_divide_146 : decode cX11_divide 146 = .ok (.iload 4, 2) := by decide +kernel
theorem dX11_divide_148 : decode cX11_divide 148 = .ok (.putfield 324, 3) := by decide +kernel
theorem dX11_divide_151 : decode cX11_divide 151 = .ok (.iinc 4 1, 3) := by decide +kernel
theorem dX11_divide_154 : decode cX11_divide 154 = .ok (.goto (-41), 3) := by decide +kernel
theorem dX11_divide_157 : decode cX11_divide 157 = .ok (.return_, 1) := by decide +kernel
theorem dX11_timeOf_0 : decode cX11_timeOf 0 = .ok (.aload_n 0, 1) := by decide +kernel
theorem dX11_timeOf_1 : decode cX11_timeOf 1 = .ok (.getfield 17, 3) := by decide +kernel
theorem dX11_timeOf_4 : decode cX11_timeOf 4 = .ok (.iconst 3, 1) := by decide +kernel
theorem dX11_timeOf_5 : decode cX11_timeOf 5 = .ok (.iaload, 1) := by decide +kernel
theorem dX11_timeOf_6 : decode cX11_timeOf 6 = .ok (.istore_n 2, 1) := by decide +kernel
theorem dX11_timeOf_7 : decode cX11_timeOf 7 = .ok (.iload_n 1, 1) := by decide +kernel
theorem dX11_timeOf_8 : decode cX11_timeOf 8 = .ok (.istore_n 3, 1) := by decide +kernel
theorem dX11_timeOf_9 : decode cX11_timeOf 9 = .ok (.iconst 0, 1) := by decide +kernel
theorem dX11_timeOf_10 : decode cX11_timeOf 10 = .ok (.istore 4, 2) := by decide +kernel
theorem dX11_timeOf_12 : decode cX11_timeOf 12 = .ok (.iconst 0, 1) := by decide +kernel
theorem dX11_timeOf_13 : decode cX11_timeOf 13 = .ok (.istore 5, 2) := by decide +kernel
theorem dX11_timeOf_15 : decode cX11_timeOf 15 = .ok (.iload 5, 2) := by decide +kernel
theorem dX11_timeOf_17 : decode cX11_timeOf 17 = .ok (.iload_n 2, 1) := by decide +kernel
theorem dX11_timeOf_18 : decode cX11_timeOf 18 = .ok (.if_icmp .ge 17, 3) := by decide +kernel
theorem dX11_timeOf_21 : decode cX11_timeOf 21 = .ok (.aload_n 0, 1) := by decide +kernel
theorem dX11_timeOf_22 : decode cX11_timeOf 22 = .ok (.getfield 68, 3) := by decide +kernel
theorem dX11_timeOf_25 : decode cX11_timeOf 25 = .ok (.iload 5, 2) := by decide +kernel
theorem dX11_timeOf_27 : decode cX11_timeOf 27 = .ok (.iconst 0, 1) := by decide +kernel
theorem dX11_timeOf_28 : decode cX11_timeOf 28 = .ok (.iastore, 1) := by decide +kernel
theorem dX11_timeOf_29 : decode cX11_timeOf 29 = .ok (.iinc 5 1, 3) := by decide +kernel
theorem dX11_timeOf_32 : decode cX11_timeOf 32 = .ok (.goto (-17), 3) := by decide +kernel
theorem dX11_timeOf_35 : decode cX11_timeOf 35 = .ok (.aload_n 0, 1) := by decide +kernel
theorem dX11_timeOf_36 : decode cX11_timeOf 36 = .ok (.getfield 291, 3) := by decide +kernel
theorem dX11_timeOf_39 : decode cX11_timeOf 39 = .ok (.iconst 1, 1) := by decide +kernel
theorem dX11_timeOf_40 : decode cX11_timeOf 40 = .ok (.isub, 1) := by decide +kernel
theorem dX11_timeOf_41 : decode cX11_timeOf 41 = .ok (.istore 5, 2) := by decide +kernel
theorem dX11_timeOf_43 : decode cX11_timeOf 43 = .ok (.iload 5, 2) := by decide +kernel
theorem dX11_timeOf_45 : decode cX11_timeOf 45 = .ok (.ifCond .lt 28, 3) := by decide +kernel
theorem dX11_timeOf_48 : decode cX11_timeOf 48 = .ok (.aload_n 0, 1) := by decide +kernel
theorem dX11_timeOf_49 : decode cX11_timeOf 49 = .ok (.getfield 68, 3) := by decide +kernel
theorem dX11_timeOf_52 : decode cX11_timeOf 52 = .ok (.iload_n 3, 1) := by decide +kernel
theorem dX11_timeOf_53 : decode cX11_timeOf 53 = .ok (.iload_n 2, 1) := by decide +kernel
theorem dX11_timeOf_54 : decode cX11_timeOf 54 = .ok (.irem, 1) := by decide +kernel
theorem dX11_timeOf_55 : decode cX11_timeOf 55 = .ok (.dup2, 1) := by decide +kernel
theorem dX11_timeOf_56 : decode cX11_timeOf 56 = .ok (.iaload, 1) := by decide +kernel
theorem dX11_timeOf_57 : decode cX11_timeOf 57 = .ok (.iconst 1, 1) := by decide +kernel
theorem dX11_timeOf_58 : decode cX11_timeOf 58 = .ok (.iload 5, 2) := by decide +kernel
theorem dX11_timeOf_60 : decode cX11_timeOf 60 = .ok (.ishl, 1) := by decide +kernel
theorem dX11_timeOf_61 : decode cX11_timeOf 61 = .ok (.ior, 1) := by decide +kernel
theorem dX11_timeOf_62 : decode cX11_timeOf 62 = .ok (.iastore, 1) := by decide +kernel
theorem dX11_timeOf_63 : decode cX11_timeOf 63 = .ok (.iload_n 3, 1) := by decide +kernel
theorem dX11_timeOf_64 : decode cX11_timeOf 64 = .ok (.iload_n 2, 1) := by decide +kernel
theorem dX11_timeOf_65 : decode cX11_timeOf 65 = .ok (.idiv, 1) := by decide +kernel
theorem dX11_timeOf_66 : decode cX11_timeOf 66 = .ok (.istore_n 3, 1) := by decide +kernel
theorem dX11_timeOf_67 : decode cX11_timeOf 67 = .ok (.iinc 5 (-1), 3) := by decide +kernel
theorem dX11_timeOf_70 : decode cX11_timeOf 70 = .ok (.goto (-27), 3) := by decide +kernel
theorem dX11_timeOf_73 : decode cX11_timeOf 73 = .ok (.iconst 0, 1) := by decide +kernel
theorem dX11_timeOf_74 : decode cX11_timeOf 74 = .ok (.istore 5, 2) := by decide +kernel
theorem dX11_timeOf_76 : decode cX11_timeOf 76 = .ok (.iload 5, 2) := by decide +kernel
theorem dX11_timeOf_78 : decode cX11_timeOf 78 = .ok (.iload_n 2, 1) := by decide +kernel
theorem dX11_timeOf_79 : decode cX11_timeOf 79 = .ok (.if_icmp .ge 56, 3) := by decide +kernel
theorem dX11_timeOf_82 : decode cX11_timeOf 82 = .ok (.aload_n 0, 1) := by decide +kernel
theorem dX11_timeOf_83 : decode cX11_timeOf 83 = .ok (.getfield 68, 3) := by decide +kernel
theorem dX11_timeOf_86 : decode cX11_timeOf 86 = .ok (.iload 5, 2) := by decide +kernel
theorem dX11_timeOf_88 : decode cX11_timeOf 88 = .ok (.iaload, 1) := by decide +kernel
theorem dX11_timeOf_89 : decode cX11_timeOf 89 = .ok (.ifCond .le 40, 3) := by decide +kernel
theorem dX11_timeOf_92 : decode cX11_timeOf 92 = .ok (.aload_n 0, 1) := by decide +kernel
theorem dX11_timeOf_93 : decode cX11_timeOf 93 = .ok (.getfield 65, 3) := by decide +kernel
theorem dX11_timeOf_96 : decode cX11_timeOf 96 = .ok (.iload 5, 2) := by decide +kernel
theorem dX11_timeOf_98 : decode cX11_timeOf 98 = .ok (.aaload, 1) := by decide +kernel
theorem dX11_timeOf_99 : decode cX11_timeOf 99 = .ok (.aload_n 0, 1) := by decide +kernel
theorem dX11_timeOf_100 : decode cX11_timeOf 100 = .ok (.getfield 68, 3) := by decide +kernel
theorem dX11_timeOf_103 : decode cX11_timeOf 103 = .ok (.iload 5, 2) := by decide +kernel
theorem dX11_timeOf_105 : decode cX11_timeOf 105 = .ok (.iaload, 1) := by decide +kernel
theorem dX11_timeOf_106 : decode cX11_timeOf 106 = .ok (.iaload, 1) := by decide +kernel
theorem dX11_timeOf_107 : decode cX11_timeOf 107 = .ok (.iload 4, 2) := by decide +kernel
theorem dX11_timeOf_109 : decode cX11_timeOf 109 = .ok (.if_icmp .le 20, 3) := by decide +kernel
theorem dX11_timeOf_112 : decode cX11_timeOf 112 = .ok (.aload_n 0, 1) := by decide +kernel
theorem dX11_timeOf_113 : decode cX11_timeOf 113 = .ok (.getfield 65, 3) := by decide +kernel
theorem dX11_timeOf_116 : decode cX11_timeOf 116 = .ok (.iload 5, 2) := by decide +kernel
theorem dX11_timeOf_118 : decode cX11_timeOf 118 = .ok (.aaload, 1) := by decide +kernel
theorem dX11_timeOf_119 : decode cX11_timeOf 119 = .ok (.aload_n 0, 1) := by decide +kernel
theorem dX11_timeOf_120 : decode cX11_timeOf 120 = .ok (.getfield 68, 3) := by decide +kernel
theorem dX11_timeOf_123 : decode cX11_timeOf 123 = .ok (.iload 5, 2) := by decide +kernel
theorem dX11_timeOf_125 : decode cX11_timeOf 125 = .ok (.iaload, 1) := by decide +kernel
theorem dX11_timeOf_126 : decode cX11_timeOf 126 = .ok (.iaload, 1) := by decide +kernel
theorem dX11_timeOf_127 : decode cX11_timeOf 127 = .ok (.istore 4, 2) := by decide +kernel
theorem dX11_timeOf_129 : decode cX11_timeOf 129 = .ok (.iinc 5 1, 3) := by decide +kernel
theorem dX11_timeOf_132 : decode cX11_timeOf 132 = .ok (.goto (-56), 3) := by decide +kernel
theorem dX11_timeOf_135 : decode cX11_timeOf 135 = .ok (.iload 4, 2) := by decide +kernel
theorem dX11_timeOf_137 : decode cX11_timeOf 137 = .ok (.ireturn, 1) := by decide +kernel
theorem dX11_division_0 : decode cX11_division 0 = .ok (.aload_n 0, 1) := by decide +kernel
theorem dX11_division_1 : decode cX11_division 1 = .ok (.iconst 0, 1) := by decide +kernel
theorem dX11_division_2 : decode cX11_division 2 = .ok (.putfield 71, 3) := by decide +kernel
theorem dX11_division_5 : decode cX11_division 5 = .ok (.aload_n 0, 1) := by decide +kernel
theorem dX11_division_6 : decode cX11_division 6 = .ok (.aload_n 0, 1) := by decide +kernel
theorem dX11_division_7 : decode cX11_division 7 = .ok (.iload_n 1, 1) := by decide +kernel
theorem dX11_division_8 : decode cX11_division 8 = .ok (.invokevirtual 301, 3) := by decide +kernel
theorem dX11_division_11 : decode cX11_division 11 = .ok (.ifCond .ne 7, 3) := by decide +kernel
theorem dX11_division_14 : decode cX11_division 14 = .ok (.iconst 1, 1) := by decide +kernel
theorem dX11_division_15 : decode cX11_division 15 = .ok (.goto 4, 3) := by decide +kernel
theorem dX11_division_18 : decode cX11_division 18 = .ok (.iconst 0, 1) := by decide +kernel
theorem dX11_division_19 : decode cX11_division 19 = .ok (.iconst 1, 1) := by decide +kernel
theorem dX11_division_20 : decode cX11_division 20 = .ok (.invokevirtual 195, 3) := by decide +kernel
theorem dX11_division_23 : decode cX11_division 23 = .ok (.ifCond .eq 5, 3) := by decide +kernel
theorem dX11_division_26 : decode cX11_division 26 = .ok (.iconst 0, 1) := by decide +kernel
theorem dX11_division_27 : decode cX11_division 27 = .ok (.ireturn, 1) := by decide +kernel
theorem dX11_division_28 : decode cX11_division 28 = .ok (.iload_n 1, 1) := by decide +kernel
theorem dX11_division_29 : decode cX11_division 29 = .ok (.ifCond .ne 5, 3) := by decide +kernel
theorem dX11_division_32 : decode cX11_division 32 = .ok (.iconst 0, 1) := by decide +kernel
theorem dX11_division_33 : decode cX11_division 33 = .ok (.ireturn, 1) := by decide +kernel
theorem dX11_division_34 : decode cX11_division 34 = .ok (.aload_n 0, 1) := by decide +kernel
theorem dX11_division_35 : decode cX11_division 35 = .ok (.iload_n 1, 1) := by decide +kernel
theorem dX11_division_36 : decode cX11_division 36 = .ok (.invokevirtual 329, 3) := by decide +kernel
theorem dX11_division_39 : decode cX11_division 39 = .ok (.aload_n 0, 1) := by decide +kernel
theorem dX11_division_40 : decode cX11_division 40 = .ok (.getfield 321, 3) := by decide +kernel
theorem dX11_division_43 : decode cX11_division 43 = .ok (.invokestatic 273, 3) := by decide +kernel
theorem dX11_division_46 : decode cX11_division 46 = .ok (.ireturn, 1) := by decide +kernel
theorem dX11_walkerOf_0 : decode cX11_walkerOf 0 = .ok (.aload_n 0, 1) := by decide +kernel
theorem dX11_walkerOf_1 : decode cX11_walkerOf 1 = .ok (.iconst 0, 1) := by decide +kernel
theorem dX11_walkerOf_2 : decode cX11_walkerOf 2 = .ok (.putfield 71, 3) := by decide +kernel
theorem dX11_walkerOf_5 : decode cX11_walkerOf 5 = .ok (.aload_n 0, 1) := by decide +kernel
theorem dX11_walkerOf_6 : decode cX11_walkerOf 6 = .ok (.iload_n 2, 1) := by decide +kernel
theorem dX11_walkerOf_7 : decode cX11_walkerOf 7 = .ok (.invokevirtual 270, 3) := by decide +kernel
theorem dX11_walkerOf_10 : decode cX11_walkerOf 10 = .ok (.ifCond .ne 24, 3) := by decide +kernel
theorem dX11_walkerOf_13 : decode cX11_walkerOf 13 = .ok (.aload_n 0, 1) := by decide +kernel
theorem dX11_walkerOf_14 : decode cX11_walkerOf 14 = .ok (.aload_n 0, 1) := by decide +kernel
theorem dX11_walkerOf_15 : decode cX11_walkerOf 15 = .ok (.iload_n 1, 1) := by decide +kernel
theorem dX11_walkerOf_16 : decode cX11_walkerOf 16 = .ok (.invokevirtual 301, 3) := by decide +kernel
theorem dX11_walkerOf_19 : decode cX11_walkerOf 19 = .ok (.ifCond .ne 7, 3) := by decide +kernel
theorem dX11_walkerOf_22 : decode cX11_walkerOf 22 = .ok (.iconst 1, 1) := by decide +kernel
theorem dX11_walkerOf_23 : decode cX11_walkerOf 23 = .ok (.goto 4, 3) := by decide +kernel
theorem dX11_walkerOf_26 : decode cX11_walkerOf 26 = .ok (.iconst 0, 1) := by decide +kernel
theorem dX11_walkerOf_27 : decode cX11_walkerOf 27 = .ok (.iconst 2, 1) := by decide +kernel
theorem dX11_walkerOf_28 : decode cX11_walkerOf 28 = .ok (.invokevirtual 195, 3) := by decide +kernel
theorem dX11_walkerOf_31 : decode cX11_walkerOf 31 = .ok (.ifCond .eq 5, 3) := by decide +kernel
theorem dX11_walkerOf_34 : decode cX11_walkerOf 34 = .ok (.iconst 0, 1) := by decide +kernel
theorem dX11_walkerOf_35 : decode cX11_walkerOf 35 = .ok (.ireturn, 1) := by decide +kernel
theorem dX11_walkerOf_36 : decode cX11_walkerOf 36 = .ok (.iload_n 1, 1) := by decide +kernel
theorem dX11_walkerOf_37 : decode cX11_walkerOf 37 = .ok (.iload_n 2, 1) := by decide +kernel
theorem dX11_walkerOf_38 : decode cX11_walkerOf 38 = .ok (.ishr, 1) := by decide +kernel
theorem dX11_walkerOf_39 : decode cX11_walkerOf 39 = .ok (.iconst 1, 1) := by decide +kernel
theorem dX11_walkerOf_40 : decode cX11_walkerOf 40 = .ok (.iand, 1) := by decide +kernel
theorem dX11_walkerOf_41 : decode cX11_walkerOf 41 = .ok (.ifCond .ne 5, 3) := by decide +kernel
theorem dX11_walkerOf_44 : decode cX11_walkerOf 44 = .ok (.iconst (-1), 1) := by decide +kernel
theorem dX11_walkerOf_45 : decode cX11_walkerOf 45 = .ok (.ireturn, 1) := by decide +kernel
theorem dX11_walkerOf_46 : decode cX11_walkerOf 46 = .ok (.aload_n 0, 1) := by decide +kernel
theorem dX11_walkerOf_47 : decode cX11_walkerOf 47 = .ok (.iload_n 1, 1) := by decide +kernel
theorem dX11_walkerOf_48 : decode cX11_walkerOf 48 = .ok (.invokevirtual 329, 3) := by decide +kernel
theorem dX11_walkerOf_51 : decode cX11_walkerOf 51 = .ok (.aload_n 0, 1) := by decide +kernel
theorem dX11_walkerOf_52 : decode cX11_walkerOf 52 = .ok (.getfield 324, 3) := by decide +kernel
theorem dX11_walkerOf_55 : decode cX11_walkerOf 55 = .ok (.ifCond .ge 5, 3) := by decide +kernel
theorem dX11_walkerOf_58 : decode cX11_walkerOf 58 = .ok (.iconst (-1), 1) := by decide +kernel
theorem dX11_walkerOf_59 : decode cX11_walkerOf 59 = .ok (.ireturn, 1) := by decide +kernel
theorem dX11_walkerOf_60 : decode cX11_walkerOf 60 = .ok (.aload_n 0, 1) := by decide +kernel
theorem dX11_walkerOf_61 : decode cX11_walkerOf 61 = .ok (.aload_n 0, 1) := by decide +kernel
theorem dX11_walkerOf_62 : decode cX11_walkerOf 62 = .ok (.getfield 324, 3) := by decide +kernel
theorem dX11_walkerOf_65 : decode cX11_walkerOf 65 = .ok (.invokevirtual 327, 3) := by decide +kernel
theorem dX11_walkerOf_68 : decode cX11_walkerOf 68 = .ok (.pop, 1) := by decide +kernel
theorem dX11_walkerOf_69 : decode cX11_walkerOf 69 = .ok (.iconst 0, 1) := by decide +kernel
theorem dX11_walkerOf_70 : decode cX11_walkerOf 70 = .ok (.istore_n 3, 1) := by decide +kernel
theorem dX11_walkerOf_71 : decode cX11_walkerOf 71 = .ok (.aload_n 0, 1) := by decide +kernel
theorem dX11_walkerOf_72 : decode cX11_walkerOf 72 = .ok (.getfield 59, 3) := by decide +kernel
theorem dX11_walkerOf_75 : decode cX11_walkerOf 75 = .ok (.iload_n 3, 1) := by decide +kernel
theorem dX11_walkerOf_76 : decode cX11_walkerOf 76 = .ok (.iaload, 1) := by decide +kernel
theorem dX11_walkerOf_77 : decode cX11_walkerOf 77 = .ok (.iload_n 2, 1) := by decide +kernel
theorem dX11_walkerOf_78 : decode cX11_walkerOf 78 = .ok (.if_icmp .eq 9, 3) := by decide +kernel
theorem dX11_walkerOf_81 : decode cX11_walkerOf 81 = .ok (.iinc 3 1, 3) := by decide +kernel
theorem dX11_walkerOf_84 : decode cX11_walkerOf 84 = .ok (.goto (-13), 3) := by decide +kernel
theorem dX11_walkerOf_87 : decode cX11_walkerOf 87 = .ok (.iconst 0, 1) := by decide +kernel
theorem dX11_walkerOf_88 : decode cX11_walkerOf 88 = .ok (.istore 4, 2) := by decide +kernel
theorem dX11_walkerOf_90 : decode cX11_walkerOf 90 = .ok (.iload 4, 2) := by decide +kernel
theorem dX11_walkerOf_92 : decode cX11_walkerOf 92 = .ok (.aload_n 0, 1) := by decide +kernel
theorem dX11_walkerOf_93 : decode cX11_walkerOf 93 = .ok (.getfield 17, 3) := by decide +kernel
theorem dX11_walkerOf_96 : decode cX11_walkerOf 96 = .ok (.iconst 3, 1) := by decide +kernel
theorem dX11_walkerOf_97 : decode cX11_walkerOf 97 = .ok (.iaload, 1) := by decide +kernel
theorem dX11_walkerOf_98 : decode cX11_walkerOf 98 = .ok (.if_icmp .ge 27, 3) := by decide +kernel
theorem dX11_walkerOf_101 : decode cX11_walkerOf 101 = .ok (.aload_n 0, 1) := by decide +kernel
theorem dX11_walkerOf_102 : decode cX11_walkerOf 102 = .ok (.getfield 68, 3) := by decide +kernel
theorem dX11_walkerOf_105 : decode cX11_walkerOf 105 = .ok (.iload 4, 2) := by decide +kernel
theorem dX11_walkerOf_107 : decode cX11_walkerOf 107 = .ok (.iaload, 1) := by decide +kernel
theorem dX11_walkerOf_108 : decode cX11_walkerOf 108 = .ok (.iload_n 3, 1) := by decide +kernel
theorem dX11_walkerOf_109 : decode cX11_walkerOf 109 = .ok (.ishr, 1) := by decide +kernel
theorem dX11_walkerOf_110 : decode cX11_walkerOf 110 = .ok (.iconst 1, 1) := by decide +kernel
theorem dX11_walkerOf_111 : decode cX11_walkerOf 111 = .ok (.iand, 1) := by decide +kernel
theorem dX11_walkerOf_112 : decode cX11_walkerOf 112 = .ok (.iconst 1, 1) := by decide +kernel
theorem dX11_walkerOf_113 : decode cX11_walkerOf 113 = .ok (.if_icmp .ne 6, 3) := by decide +kernel
theorem dX11_walkerOf_116 : decode cX11_walkerOf 116 = .ok (.iload 4, 2) := by decide +kernel
theorem dX11_walkerOf_118 : decode cX11_walkerOf 118 = .ok (.ireturn, 1) := by decide +kernel
theorem dX11_walkerOf_119 : decode cX11_walkerOf 119 = .ok (.iinc 4 1, 3) := by decide +kernel
theorem dX11_walkerOf_122 : decode cX11_walkerOf 122 = .ok (.goto (-32), 3) := by decide +kernel
theorem dX11_walkerOf_125 : decode cX11_walkerOf 125 = .ok (.iconst (-1), 1) := by decide +kernel
theorem dX11_walkerOf_126 : decode cX11_walkerOf 126 = .ok (.ireturn, 1) := by decide +kernel
theorem dX11_remember_0 : decode cX11_remember 0 = .ok (.aload_n 0, 1) := by decide +kernel
theorem dX11_remember_1 : decode cX11_remember 1 = .ok (.getfield 332, 3) := by decide +kernel
theorem dX11_remember_4 : decode cX11_remember 4 = .ok (.bipush 8, 2) := by decide +kernel
theorem dX11_remember_6 : decode cX11_remember 6 = .ok (.if_icmp .ne 44, 3) := by decide +kernel
theorem dX11_remember_9 : decode cX11_remember 9 = .ok (.iconst 1, 1) := by decide +kernel
theorem dX11_remember_10 : decode cX11_remember 10 = .ok (.istore_n 1, 1) := by decide +kernel
theorem dX11_remember_11 : decode cX11_remember 11 = .ok (.iload_n 1, 1) := by decide +kernel
theorem dX11_remember_12 : decode cX11_remember 12 = .ok (.bipush 8, 2) := by decide +kernel
theorem dX11_remember_14 : decode cX11_remember 14 = .ok (.if_icmp .ge 26, 3) := by decide +kernel
theorem dX11_remember_17 : decode cX11_remember 17 = .ok (.aload_n 0, 1) := by decide +kernel
theorem dX11_remember_18 : decode cX11_remember 18 = .ok (.getfield 25, 3) := by decide +kernel
theorem dX11_remember_21 : decode cX11_remember 21 = .ok (.iload_n 1, 1) := by decide +kernel
theorem dX11_remember_22 : decode cX11_remember 22 = .ok (.aaload, 1) := by decide +kernel
theorem dX11_remember_23 : decode cX11_remember 23 = .ok (.aload_n 0, 1) := by decide +kernel
theorem dX11_remember_24 : decode cX11_remember 24 = .ok (.getfield 25, 3) := by decide +kernel
theorem dX11_remember_27 : decode cX11_remember 27 = .ok (.iload_n 1, 1) := by decide +kernel
theorem dX11_remember_28 : decode cX11_remember 28 = .ok (.iconst 1, 1) := by decide +kernel
theorem dX11_remember_29 : decode cX11_remember 29 = .ok (.isub, 1) := by decide +kernel
theorem dX11_remember_30 : decode cX11_remember 30 = .ok (.aaload, 1) := by decide +kernel
theorem dX11_remember_31 : decode cX11_remember 31 = .ok (.invokestatic 207, 3) := by decide +kernel
theorem dX11_remember_34 : decode cX11_remember 34 = .ok (.iinc 1 1, 3) := by decide +kernel
theorem dX11_remember_37 : decode cX11_remember 37 = .ok (.goto (-26), 3) := by decide +kernel
theorem dX11_remember_40 : decode cX11_remember 40 = .ok (.aload_n 0, 1) := by decide +kernel
theorem dX11_remember_41 : decode cX11_remember 41 = .ok (.dup, 1) := by decide +kernel
theorem dX11_remember_42 : decode cX11_remember 42 = .ok (.getfield 332, 3) := by decide +kernel
theorem dX11_remember_45 : decode cX11_remember 45 = .ok (.iconst 1, 1) := by decide +kernel
theorem dX11_remember_46 : decode cX11_remember 46 = .ok (.isub, 1) := by decide +kernel
theorem dX11_remember_47 : decode cX11_remember 47 = .ok (.putfield 332, 3) := by decide +kernel
theorem dX11_remember_50 : decode cX11_remember 50 = .ok (.aload_n 0, 1) := by decide +kernel
theorem dX11_remember_51 : decode cX11_remember 51 = .ok (.getfield 17, 3) := by decide +kernel
theorem dX11_remember_54 : decode cX11_remember 54 = .ok (.aload_n 0, 1) := by decide +kernel
theorem dX11_remember_55 : decode cX11_remember 55 = .ok (.getfield 25, 3) := by decide +kernel
theorem dX11_remember_58 : decode cX11_remember 58 = .ok (.aload_n 0, 1) := by decide +kernel
theorem dX11_remember_59 : decode cX11_remember 59 = .ok (.getfield 332, 3) := by decide +kernel
theorem dX11_remember_62 : decode cX11_remember 62 = .ok (.aaload, 1) := by decide +kernel
theorem dX11_remember_63 : decode cX11_remember 63 = .ok (.invokestatic 207, 3) := by decide +kernel
theorem dX11_remember_66 : decode cX11_remember 66 = .ok (.aload_n 0, 1) := by decide +kernel
theorem dX11_remember_67 : decode cX11_remember 67 = .ok (.dup, 1) := by decide +kernel
theorem dX11_remember_68 : decode cX11_remember 68 = .ok (.getfield 332, 3) := by decide +kernel
theorem dX11_remember_71 : decode cX11_remember 71 = .ok (.iconst 1, 1) := by decide +kernel
theorem dX11_remember_72 : decode cX11_remember 72 = .ok (.iadd, 1) := by decide +kernel
theorem dX11_remember_73 : decode cX11_remember 73 = .ok (.putfield 332, 3) := by decide +kernel
theorem dX11_remember_76 : decode cX11_remember 76 = .ok (.return_, 1) := by decide +kernel
theorem dX11_plan_0 : decode cX11_plan 0 = .ok (.aload_n 0, 1) := by decide +kernel
theorem dX11_plan_1 : decode cX11_plan 1 = .ok (.iconst 0, 1) := by decide +kernel
theorem dX11_plan_2 : decode cX11_plan 2 = .ok (.putfield 71, 3) := by decide +kernel
theorem dX11_plan_5 : decode cX11_plan 5 = .ok (.aload_n 0, 1) := by decide +kernel
theorem dX11_plan_6 : decode cX11_plan 6 = .ok (.iload_n 1, 1) := by decide +kernel
theorem dX11_plan_7 : decode cX11_plan 7 = .ok (.invokevirtual 279, 3) := by decide +kernel
theorem dX11_plan_10 : decode cX11_plan 10 = .ok (.ifCond .ne 40, 3) := by decide +kernel
theorem dX11_plan_13 : decode cX11_plan 13 = .ok (.aload_n 0, 1) := by decide +kernel
theorem dX11_plan_14 : decode cX11_plan 14 = .ok (.iload_n 2, 1) := by decide +kernel
theorem dX11_plan_15 : decode cX11_plan 15 = .ok (.invokevirtual 270, 3) := by decide +kernel
theorem dX11_plan_18 : decode cX11_plan 18 = .ok (.ifCond .ne 32, 3) := by decide +kernel
theorem dX11_plan_21 : decode cX11_plan 21 = .ok (.aload_n 0, 1) := by decide +kernel
theorem dX11_plan_22 : decode cX11_plan 22 = .ok (.aload_n 0, 1) := by decide +kernel
theorem dX11_plan_23 : decode cX11_plan 23 = .ok (.getfield 17, 3) := by decide +kernel
theorem dX11_plan_26 : decode cX11_plan 26 = .ok (.iload_n 1, 1) := by decide +kernel
theorem dX11_plan_27 : decode cX11_plan 27 = .ok (.invokestatic 168, 3) := by decide +kernel
theorem dX11_plan_30 : decode cX11_plan 30 = .ok (.iconst 2, 1) := by decide +kernel
theorem dX11_plan_31 : decode cX11_plan 31 = .ok (.iadd, 1) := by decide +kernel
theorem dX11_plan_32 : decode cX11_plan 32 = .ok (.iaload, 1) := by decide +kernel
theorem dX11_plan_33 : decode cX11_plan 33 = .ok (.bipush 12, 2) := by decide +kernel
theorem dX11_plan_35 : decode cX11_plan 35 = .ok (.if_icmp .ne 7, 3) := by decide +kernel
theorem dX11_plan_38 : decode cX11_plan 38 = .ok (.iconst 1, 1) := by decide +kernel
theorem dX11_plan_39 : decode cX11_plan 39 = .ok (.goto 4, 3) := by decide +kernel
theorem dX11_plan_42 : decode cX11_plan 42 = .ok (.iconst 0, 1) := by decide +kernel
theorem dX11_plan_43 : decode cX11_plan 43 = .ok (.iconst 2, 1) := by decide +kernel
theorem dX11_plan_44 : decode cX11_plan 44 = .ok (.invokevirtual 195, 3) := by decide +kernel
theorem dX11_plan_47 : decode cX11_plan 47 = .ok (.ifCond .eq 5, 3) := by decide +kernel
theorem dX11_plan_50 : decode cX11_plan 50 = .ok (.iconst 0, 1) := by decide +kernel
theorem dX11_plan_51 : decode cX11_plan 51 = .ok (.ireturn, 1) := by decide +kernel
theorem dX11_plan_52 : decode cX11_plan 52 = .ok (.aload_n 0, 1) := by decide +kernel
theorem dX11_plan_53 : decode cX11_plan 53 = .ok (.invokevirtual 204, 3) := by decide +kernel
theorem dX11_plan_56 : decode cX11_plan 56 = .ok (.iload_n 1, 1) := by decide +kernel
theorem dX11_plan_57 : decode cX11_plan 57 = .ok (.invokestatic 168, 3) := by decide +kernel
theorem dX11_plan_60 : decode cX11_plan 60 = .ok (.istore_n 3, 1) := by decide +kernel
theorem dX11_plan_61 : decode cX11_plan 61 = .ok (.aload_n 0, 1) := by decide +kernel
theorem dX11_plan_62 : decode cX11_plan 62 = .ok (.getfield 17, 3) := by decide +kernel
theorem dX11_plan_65 : decode cX11_plan 65 = .ok (.iload_n 3, 1) := by decide +kernel
theorem dX11_plan_66 : decode cX11_plan 66 = .ok (.iconst 3, 1) := by decide +kernel
theorem dX11_plan_67 : decode cX11_plan 67 = .ok (.iadd, 1) := by decide +kernel
theorem dX11_plan_68 : decode cX11_plan 68 = .ok (.aload_n 0, 1) := by decide +kernel
theorem dX11_plan_69 : decode cX11_plan 69 = .ok (.getfield 17, 3) := by decide +kernel
theorem dX11_plan_72 : decode cX11_plan 72 = .ok (.iload_n 3, 1) := by decide +kernel
theorem dX11_plan_73 : decode cX11_plan 73 = .ok (.iconst 2, 1) := by decide +kernel
theorem dX11_plan_74 : decode cX11_plan 74 = .ok (.iadd, 1) := by decide +kernel
theorem dX11_plan_75 : decode cX11_plan 75 = .ok (.iaload, 1) := by decide +kernel
theorem dX11_plan_76 : decode cX11_plan 76 = .ok (.iadd, 1) := by decide +kernel
theorem dX11_plan_77 : decode cX11_plan 77 = .ok (.iload_n 2, 1) := by decide +kernel
theorem dX11_plan_78 : decode cX11_plan 78 = .ok (.iastore, 1) := by decide +kernel
theorem dX11_plan_79 : decode cX11_plan 79 = .ok (.aload_n 0, 1) := by decide +kernel
theorem dX11_plan_80 : decode cX11_plan 80 = .ok (.getfield 17, 3) := by decide +kernel
theorem dX11_plan_83 : decode cX11_plan 83 = .ok (.iload_n 3, 1) := by decide +kernel
theorem dX11_plan_84 : decode cX11_plan 84 = .ok (.iconst 2, 1) := by decide +kernel
theorem dX11_plan_85 : decode cX11_plan 85 = .ok (.iadd, 1) := by decide +kernel
theorem dX11_plan_86 : decode cX11_plan 86 = .ok (.dup2, 1) := by decide +kernel
theorem dX11_plan_87 : decode cX11_plan 87 = .ok (.iaload, 1) := by decide +kernel
theorem dX11_plan_88 : decode cX11_plan 88 = .ok (.iconst 1, 1) := by decide +kernel
theorem dX11_plan_89 : decode cX11_plan 89 = .ok (.iadd, 1) := by decide +kernel
theorem dX11_plan_90 : decode cX11_plan 90 = .ok (.iastore, 1) := by decide +kernel
theorem dX11_plan_91 : decode cX11_plan 91 = .ok (.aload_n 0, 1) := by decide +kernel
theorem dX11_plan_92 : decode cX11_plan 92 = .ok (.getfield 17, 3) := by decide +kernel
theorem dX11_plan_95 : decode cX11_plan 95 = .ok (.iload_n 3, 1) := by decide +kernel
theorem dX11_plan_96 : decode cX11_plan 96 = .ok (.iconst 2, 1) := by decide +kernel
theorem dX11_plan_97 : decode cX11_plan 97 = .ok (.iadd, 1) := by decide +kernel
theorem dX11_plan_98 : decode cX11_plan 98 = .ok (.iaload, 1) := by decide +kernel
theorem dX11_plan_99 : decode cX11_plan 99 = .ok (.ireturn, 1) := by decide +kernel
theorem dX11_unplan_0 : decode cX11_unplan 0 = .ok (.aload_n 0, 1) := by decide +kernel
theorem dX11_unplan_1 : decode cX11_unplan 1 = .ok (.iconst 0, 1) := by decide +kernel
theorem dX11_unplan_2 : decode cX11_unplan 2 = .ok (.putfield 71, 3) := by decide +kernel
theorem dX11_unplan_5 : decode cX11_unplan 5 = .ok (.aload_n 0, 1) := by decide +kernel
theorem dX11_unplan_6 : decode cX11_unplan 6 = .ok (.iload_n 1, 1) := by decide +kernel
theorem dX11_unplan_7 : decode cX11_unplan 7 = .ok (.invokevirtual 279, 3) := by decide +kernel
theorem dX11_unplan_10 : decode cX11_unplan 10 = .ok (.ifCond .ne 30, 3) := by decide +kernel
theorem dX11_unplan_13 : decode cX11_unplan 13 = .ok (.aload_n 0, 1) := by decide +kernel
theorem dX11_unplan_14 : decode cX11_unplan 14 = .ok (.aload_n 0, 1) := by decide +kernel
theorem dX11_unplan_15 : decode cX11_unplan 15 = .ok (.getfield 17, 3) := by decide +kernel
theorem dX11_unplan_18 : decode cX11_unplan 18 = .ok (.iload_n 1, 1) := by decide +kernel
theorem dX11_unplan_19 : decode cX11_unplan 19 = .ok (.invokestatic 168, 3) := by decide +kernel
theorem dX11_unplan_22 : decode cX11_unplan 22 = .ok (.iconst 2, 1) := by decide +kernel
theorem dX11_unplan_23 : decode cX11_unplan 23 = .ok (.iadd, 1) := by decide +kernel
theorem dX11_unplan_24 : decode cX11_unplan 24 = .ok (.iaload, 1) := by decide +kernel
theorem dX11_unplan_25 : decode cX11_unplan 25 = .ok (.ifCond .ne 7, 3) := by decide +kernel
theorem dX11_unplan_28 : decode cX11_unplan 28 = .ok (.iconst 1, 1) := by decide +kernel
theorem dX11_unplan_29 : decode cX11_unplan 29 = .ok (.goto 4, 3) := by decide +kernel
theorem dX11_unplan_32 : decode cX11_unplan 32 = .ok (.iconst 0, 1) := by decide +kernel
theorem dX11_unplan_33 : decode cX11_unplan 33 = .ok (.iconst 2, 1) := by decide +kernel
theorem dX11_unplan_34 : decode cX11_unplan 34 = .ok (.invokevirtual 195, 3) := by decide +kernel
theorem dX11_unplan_37 : decode cX11_unplan 37 = .ok (.ifCond .eq 5, 3) := by decide +kernel
theorem dX11_unplan_40 : decode cX11_unplan 40 = .ok (.iconst 0, 1) := by decide +kernel
theorem dX11_unplan_41 : decode cX11_unplan 41 = .ok (.ireturn, 1) := by decide +kernel
theorem dX11_unplan_42 : decode cX11_unplan 42 = .ok (.aload_n 0, 1) := by decide +kernel
theorem dX11_unplan_43 : decode cX11_unplan 43 = .ok (.invokevirtual 204, 3) := by decide +kernel
theorem dX11_unplan_46 : decode cX11_unplan 46 = .ok (.iload_n 1, 1) := by decide +kernel
theorem dX11_unplan_47 : decode cX11_unplan 47 = .ok (.invokestatic 168, 3) := by decide +kernel
theorem dX11_unplan_50 : decode cX11_unplan 50 = .ok (.istore_n 2, 1) := by decide +kernel
theorem dX11_unplan_51 : decode cX11_unplan 51 = .ok (.aload_n 0, 1) := by decide +kernel
theorem dX11_unplan_52 : decode cX11_unplan 52 = .ok (.getfield 17, 3) := by decide +kernel
theorem dX11_unplan_55 : decode cX11_unplan 55 = .ok (.iload_n 2, 1) := by decide +kernel
theorem dX11_unplan_56 : decode cX11_unplan 56 = .ok (.iconst 2, 1) := by decide +kernel
theorem dX11_unplan_57 : decode cX11_unplan 57 = .ok (.iadd, 1) := by decide +kernel
theorem dX11_unplan_58 : decode cX11_unplan 58 = .ok (.dup2, 1) := by decide +kernel
theorem dX11_unplan_59 : decode cX11_unplan 59 = .ok (.iaload, 1) := by decide +kernel
theorem dX11_unplan_60 : decode cX11_unplan 60 = .ok (.iconst 1, 1) := by decide +kernel
theorem dX11_unplan_61 : decode cX11_unplan 61 = .ok (.isub, 1) := by decide +kernel
theorem dX11_unplan_62 : decode cX11_unplan 62 = .ok (.iastore, 1) := by decide +kernel
theorem dX11_unplan_63 : decode cX11_unplan 63 = .ok (.aload_n 0, 1) := by decide +kernel
theorem dX11_unplan_64 : decode cX11_unplan 64 = .ok (.getfield 17, 3) := by decide +kernel
theorem dX11_unplan_67 : decode cX11_unplan 67 = .ok (.iload_n 2, 1) := by decide +kernel
theorem dX11_unplan_68 : decode cX11_unplan 68 = .ok (.iconst 3, 1) := by decide +kernel
theorem dX11_unplan_69 : decode cX11_unplan 69 = .ok (.iadd, 1) := by decide +kernel
theorem dX11_unplan_70 : decode cX11_unplan 70 = .ok (.aload_n 0, 1) := by decide +kernel
theorem dX11_unplan_71 : decode cX11_unplan 71 = .ok (.getfield 17, 3) := by decide +kernel
theorem dX11_unplan_74 : decode cX11_unplan 74 = .ok (.iload_n 2, 1) := by decide +kernel
theorem dX11_unplan_75 : decode cX11_unplan 75 = .ok (.iconst 2, 1) := by decide +kernel
theorem dX11_unplan_76 : decode cX11_unplan 76 = .ok (.iadd, 1) := by decide +kernel
theorem dX11_unplan_77 : decode cX11_unplan 77 = .ok (.iaload, 1) := by decide +kernel
theorem dX11_unplan_78 : decode cX11_unplan 78 = .ok (.iadd, 1) := by decide +kernel
theorem dX11_unplan_79 : decode cX11_unplan 79 = .ok (.iaload, 1) := by decide +kernel
theorem dX11_unplan_80 : decode cX11_unplan 80 = .ok (.ireturn, 1) := by decide +kernel
theorem dX11_setHours_0 : decode cX11_setHours 0 = .ok (.aload_n 0, 1) := by decide +kernel
theorem dX11_setHours_1 : decode cX11_setHours 1 = .ok (.iconst 0, 1) := by decide +kernel
theorem dX11_setHours_2 : decode cX11_setHours 2 = .ok (.putfield 71, 3) := by decide +kernel
theorem dX11_setHours_5 : decode cX11_setHours 5 = .ok (.aload_n 0, 1) := by decide +kernel
theorem dX11_setHours_6 : decode cX11_setHours 6 = .ok (.iload_n 1, 1) := by decide +kernel
theorem dX11_setHours_7 : decode cX11_setHours 7 = .ok (.invokevirtual 270, 3) := by decide +kernel
theorem dX11_setHours_10 : decode cX11_setHours 10 = .ok (.ifCond .ne 40, 3) := by decide +kernel
theorem dX11_setHours_13 : decode cX11_setHours 13 = .ok (.aload_n 0, 1) := by decide +kernel
theorem dX11_setHours_14 : decode cX11_setHours 14 = .ok (.iload_n 2, 1) := by decide +kernel
theorem dX11_setHours_15 : decode cX11_setHours 15 = .ok (.iconst 0, 1) := by decide +kernel
theorem dX11_setHours_16 : decode cX11_setHours 16 = .ok (.sipush 1439, 3) := by decide +kernel
theorem dX11_setHours_19 : decode cX11_setHours 19 = .ok (.invokestatic 93, 3) := by decide +kernel
theorem dX11_setHours_22 : decode cX11_setHours 22 = .ok (.ifCond .eq 16, 3) := by decide +kernel
theorem dX11_setHours_25 : decode cX11_setHours 25 = .ok (.iload_n 3, 1) := by decide +kernel
theorem dX11_setHours_26 : decode cX11_setHours 26 = .ok (.iload_n 2, 1) := by decide +kernel
theorem dX11_setHours_27 : decode cX11_setHours 27 = .ok (.iconst 1, 1) := by decide +kernel
theorem dX11_setHours_28 : decode cX11_setHours 28 = .ok (.iadd, 1) := by decide +kernel
theorem dX11_setHours_29 : decode cX11_setHours 29 = .ok (.sipush 1440, 3) := by decide +kernel
theorem dX11_setHours_32 : decode cX11_setHours 32 = .ok (.invokestatic 93, 3) := by decide +kernel
theorem dX11_setHours_35 : decode cX11_setHours 35 = .ok (.ifCond .ne 7, 3) := by decide +kernel
theorem dX11_setHours_38 : decode cX11_setHours 38 = .ok (.iconst 1, 1) := by decide +kernel
theorem dX11_setHours_39 : decode cX11_setHours 39 = .ok (.goto 4, 3) := by decide +kernel
theorem dX11_setHours_42 : decode cX11_setHours 42 = .ok (.iconst 0, 1) := by decide +kernel
theorem dX11_setHours_43 : decode cX11_setHours 43 = .ok (.iconst 2, 1) := by decide +kernel
theorem dX11_setHours_44 : decode cX11_setHours 44 = .ok (.invokevirtual 195, 3) := by decide +kernel
theorem dX11_setHours_47 : decode cX11_setHours 47 = .ok (.ifCond .eq 5, 3) := by decide +kernel
theorem dX11_setHours_50 : decode cX11_setHours 50 = .ok (.iconst 0, 1) := by decide +kernel
theorem dX11_setHours_51 : decode cX11_setHours 51 = .ok (.ireturn, 1) := by decide +kernel
theorem dX11_setHours_52 : decode cX11_setHours 52 = .ok (.aload_n 0, 1) := by decide +kernel
theorem dX11_setHours_53 : decode cX11_setHours 53 = .ok (.invokevirtual 204, 3) := by decide +kernel
theorem dX11_setHours_56 : decode cX11_setHours 56 = .ok (.aload_n 0, 1) := by decide +kernel
theorem dX11_setHours_57 : decode cX11_setHours 57 = .ok (.getfield 17, 3) := by decide +kernel
theorem dX11_setHours_60 : decode cX11_setHours 60 = .ok (.iload_n 1, 1) := by decide +kernel
theorem dX11_setHours_61 : decode cX11_setHours 61 = .ok (.invokestatic 165, 3) := by decide +kernel
theorem dX11_setHours_64 : decode cX11_setHours 64 = .ok (.iconst 4, 1) := by decide +kernel
theorem dX11_setHours_65 : decode cX11_setHours 65 = .ok (.iadd, 1) := by decide +kernel
theorem dX11_setHours_66 : decode cX11_setHours 66 = .ok (.iload_n 2, 1) := by decide +kernel
theorem dX11_setHours_67 : decode cX11_setHours 67 = .ok (.iastore, 1) := by decide +kernel
theorem dX11_setHours_68 : decode cX11_setHours 68 = .ok (.aload_n 0, 1) := by decide +kernel
theorem dX11_setHours_69 : decode cX11_setHours 69 = .ok (.getfield 17, 3) := by decide +kernel
theorem dX11_setHours_72 : decode cX11_setHours 72 = .ok (.iload_n 1, 1) := by decide +kernel
theorem dX11_setHours_73 : decode cX11_setHours 73 = .ok (.invokestatic 165, 3) := by decide +kernel
theorem dX11_setHours_76 : decode cX11_setHours 76 = .ok (.iconst 5, 1) := by decide +kernel
theorem dX11_setHours_77 : decode cX11_setHours 77 = .ok (.iadd, 1) := by decide +kernel
theorem dX11_setHours_78 : decode cX11_setHours 78 = .ok (.iload_n 3, 1) := by decide +kernel
theorem dX11_setHours_79 : decode cX11_setHours 79 = .ok (.iastore, 1) := by decide +kernel
theorem dX11_setHours_80 : decode cX11_setHours 80 = .ok (.aload_n 0, 1) := by decide +kernel
theorem dX11_setHours_81 : decode cX11_setHours 81 = .ok (.invokevirtual 285, 3) := by decide +kernel
theorem dX11_setHours_84 : decode cX11_setHours 84 = .ok (.aload_n 0, 1) := by decide +kernel
theorem dX11_setHours_85 : decode cX11_setHours 85 = .ok (.getfield 252, 3) := by decide +kernel
theorem dX11_setHours_88 : decode cX11_setHours 88 = .ok (.invokestatic 288, 3) := by decide +kernel
theorem dX11_setHours_91 : decode cX11_setHours 91 = .ok (.ireturn, 1) := by decide +kernel
theorem dX11_setDog_0 : decode cX11_setDog 0 = .ok (.aload_n 0, 1) := by decide +kernel
theorem dX11_setDog_1 : decode cX11_setDog 1 = .ok (.iconst 0, 1) := by decide +kernel
theorem dX11_setDog_2 : decode cX11_setDog 2 = .ok (.putfield 71, 3) := by decide +kernel
theorem dX11_setDog_5 : decode cX11_setDog 5 = .ok (.aload_n 0, 1) := by decide +kernel
theorem dX11_setDog_6 : decode cX11_setDog 6 = .ok (.iload_n 1, 1) := by decide +kernel
theorem dX11_setDog_7 : decode cX11_setDog 7 = .ok (.invokevirtual 270, 3) := by decide +kernel
theorem dX11_setDog_10 : decode cX11_setDog 10 = .ok (.ifCond .eq 5, 3) := by decide +kernel
theorem dX11_setDog_13 : decode cX11_setDog 13 = .ok (.iconst 0, 1) := by decide +kernel
theorem dX11_setDog_14 : decode cX11_setDog 14 = .ok (.ireturn, 1) := by decide +kernel
theorem dX11_setDog_15 : decode cX11_setDog 15 = .ok (.aload_n 0, 1) := by decide +kernel
theorem dX11_setDog_16 : decode cX11_setDog 16 = .ok (.invokevirtual 204, 3) := by decide +kernel
theorem dX11_setDog_19 : decode cX11_setDog 19 = .ok (.aload_n 0, 1) := by decide +kernel
theorem dX11_setDog_20 : decode cX11_setDog 20 = .ok (.getfield 17, 3) := by decide +kernel
theorem dX11_setDog_23 : decode cX11_setDog 23 = .ok (.iload_n 1, 1) := by decide +kernel
theorem dX11_setDog_24 : decode cX11_setDog 24 = .ok (.invokestatic 165, 3) := by decide +kernel
theorem dX11_setDog_27 : decode cX11_setDog 27 = .ok (.bipush 6, 2) := by decide +kernel
theorem dX11_setDog_29 : decode cX11_setDog 29 = .ok (.iadd, 1) := by decide +kernel
theorem dX11_setDog_30 : decode cX11_setDog 30 = .ok (.iaload, 1) := by decide +kernel
theorem dX11_setDog_31 : decode cX11_setDog 31 = .ok (.iconst 1, 1) := by decide +kernel
theorem dX11_setDog_32 : decode cX11_setDog 32 = .ok (.if_icmp .ne 7, 3) := by decide +kernel
theorem dX11_setDog_35 : decode cX11_setDog 35 = .ok (.iconst 1, 1) := by decide +kernel
theorem dX11_setDog_36 : decode cX11_setDog 36 = .ok (.goto 4, 3) := by decide +kernel
theorem dX11_setDog_39 : decode cX11_setDog 39 = .ok (.iconst 0, 1) := by decide +kernel
theorem dX11_setDog_40 : decode cX11_setDog 40 = .ok (.istore_n 3, 1) := by decide +kernel
theorem dX11_setDog_41 : decode cX11_setDog 41 = .ok (.aload_n 0, 1) := by decide +kernel
theorem dX11_setDog_42 : decode cX11_setDog 42 = .ok (.getfield 17, 3) := by decide +kernel
theorem dX11_setDog_45 : decode cX11_setDog 45 = .ok (.iload_n 1, 1) := by decide +kernel
theorem dX11_setDog_46 : decode cX11_setDog 46 = .ok (.invokestatic 165, 3) := by decide +kernel
theorem dX11_setDog_49 : decode cX11_setDog 49 = .ok (.bipush 6, 2) := by decide +kernel
theorem dX11_setDog_51 : decode cX11_setDog 51 = .ok (.iadd, 1) := by decide +kernel
theorem dX11_setDog_52 : decode cX11_setDog 52 = .ok (.iload_n 2, 1) := by decide +kernel
theorem dX11_setDog_53 : decode cX11_setDog 53 = .ok (.ifCond .eq 7, 3) := by decide +kernel
theorem dX11_setDog_56 : decode cX11_setDog 56 = .ok (.iconst 1, 1) := by decide +kernel
theorem dX11_setDog_57 : decode cX11_setDog 57 = .ok (.goto 4, 3) := by decide +kernel
theorem dX11_setDog_60 : decode cX11_setDog 60 = .ok (.iconst 0, 1) := by decide +kernel
theorem dX11_setDog_61 : decode cX11_setDog 61 = .ok (.iastore, 1) := by decide +kernel
theorem dX11_setDog_62 : decode cX11_setDog 62 = .ok (.iload_n 3, 1) := by decide +kernel
theorem dX11_setDog_63 : decode cX11_setDog 63 = .ok (.ireturn, 1) := by decide +kernel
theorem dX11_setOpen_0 : decode cX11_setOpen 0 = .ok (.aload_n 0, 1) := by decide +kernel
theorem dX11_setOpen_1 : decode cX11_setOpen 1 = .ok (.iconst 0, 1) := by decide +kernel
theorem dX11_setOpen_2 : decode cX11_setOpen 2 = .ok (.putfield 71, 3) := by decide +kernel
theorem dX11_setOpen_5 : decode cX11_setOpen 5 = .ok (.aload_n 0, 1) := by decide +kernel
theorem dX11_setOpen_6 : decode cX11_setOpen 6 = .ok (.iload_n 1, 1) := by decide +kernel
theorem dX11_setOpen_7 : decode cX11_setOpen 7 = .ok (.invokevirtual 276, 3) := by decide +kernel
theorem dX11_setOpen_10 : decode cX11_setOpen 10 = .ok (.ifCond .eq 5, 3) := by decide +kernel
theorem dX11_setOpen_13 : decode cX11_setOpen 13 = .ok (.iconst 0, 1) := by decide +kernel
theorem dX11_setOpen_14 : decode cX11_setOpen 14 = .ok (.ireturn, 1) := by decide +kernel
theorem dX11_setOpen_15 : decode cX11_setOpen 15 = .ok (.aload_n 0, 1) := by decide +kernel
theorem dX11_setOpen_16 : decode cX11_setOpen 16 = .ok (.invokevirtual 204, 3) := by decide +kernel
theorem dX11_setOpen_19 : decode cX11_setOpen 19 = .ok (.aload_n 0, 1) := by decide +kernel
theorem dX11_setOpen_20 : decode cX11_setOpen 20 = .ok (.getfield 17, 3) := by decide +kernel
theorem dX11_setOpen_23 : decode cX11_setOpen 23 = .ok (.iload_n 1, 1) := by decide +kernel
theorem dX11_setOpen_24 : decode cX11_setOpen 24 = .ok (.invokestatic 162, 3) := by decide +kernel
theorem dX11_setOpen_27 : decode cX11_setOpen 27 = .ok (.iconst 3, 1) := by decide +kernel
theorem dX11_setOpen_28 : decode cX11_setOpen 28 = .ok (.iadd, 1) := by decide +kernel
theorem dX11_setOpen_29 : decode cX11_setOpen 29 = .ok (.iaload, 1) := by decide +kernel
theorem dX11_setOpen_30 : decode cX11_setOpen 30 = .ok (.ifCond .ne 7, 3) := by decide +kernel
theorem dX11_setOpen_33 : decode cX11_setOpen 33 = .ok (.iconst 1, 1) := by decide +kernel
theorem dX11_setOpen_34 : decode cX11_setOpen 34 = .ok (.goto 4, 3) := by decide +kernel
theorem dX11_setOpen_37 : decode cX11_setOpen 37 = .ok (.iconst 0, 1) := by decide +kernel
theorem dX11_setOpen_38 : decode cX11_setOpen 38 = .ok (.istore_n 3, 1) := by decide +kernel
theorem dX11_setOpen_39 : decode cX11_setOpen 39 = .ok (.aload_n 0, 1) := by decide +kernel
theorem dX11_setOpen_40 : decode cX11_setOpen 40 = .ok (.getfield 17, 3) := by decide +kernel
theorem dX11_setOpen_43 : decode cX11_setOpen 43 = .ok (.iload_n 1, 1) := by decide +kernel
theorem dX11_setOpen_44 : decode cX11_setOpen 44 = .ok (.invokestatic 162, 3) := by decide +kernel
theorem dX11_setOpen_47 : decode cX11_setOpen 47 = .ok (.iconst 3, 1) := by decide +kernel
theorem dX11_setOpen_48 : decode cX11_setOpen 48 = .ok (.iadd, 1) := by decide +kernel
theorem dX11_setOpen_49 : decode cX11_setOpen 49 = .ok (.iload_n 2, 1) := by decide +kernel
theorem dX11_setOpen_50 : decode cX11_setOpen 50 = .ok (.ifCond .eq 7, 3) := by decide +kernel
theorem dX11_setOpen_53 : decode cX11_setOpen 53 = .ok (.iconst 0, 1) := by decide +kernel
theorem dX11_setOpen_54 : decode cX11_setOpen 54 = .ok (.goto 4, 3) := by decide +kernel
theorem dX11_setOpen_57 : decode cX11_setOpen 57 = .ok (.iconst 1, 1) := by decide +kernel
theorem dX11_setOpen_58 : decode cX11_setOpen 58 = .ok (.iastore, 1) := by decide +kernel
theorem dX11_setOpen_59 : decode cX11_setOpen 59 = .ok (.iload_n 3, 1) := by decide +kernel
theorem dX11_setOpen_60 : decode cX11_setOpen 60 = .ok (.ireturn, 1) := by decide +kernel
theorem dX11_undo_0 : decode cX11_undo 0 = .ok (.aload_n 0, 1) := by decide +kernel
theorem dX11_undo_1 : decode cX11_undo 1 = .ok (.iconst 0, 1) := by decide +kernel
theorem dX11_undo_2 : decode cX11_undo 2 = .ok (.putfield 71, 3) := by decide +kernel
theorem dX11_undo_5 : decode cX11_undo 5 = .ok (.aload_n 0, 1) := by decide +kernel
theorem dX11_undo_6 : decode cX11_undo 6 = .ok (.getfield 332, 3) := by decide +kernel
theorem dX11_undo_9 : decode cX11_undo 9 = .ok (.ifCond .ne 5, 3) := by decide +kernel
theorem dX11_undo_12 : decode cX11_undo 12 = .ok (.iconst (-1), 1) := by decide +kernel
theorem dX11_undo_13 : decode cX11_undo 13 = .ok (.ireturn, 1) := by decide +kernel
theorem dX11_undo_14 : decode cX11_undo 14 = .ok (.aload_n 0, 1) := by decide +kernel
theorem dX11_undo_15 : decode cX11_undo 15 = .ok (.dup, 1) := by decide +kernel
theorem dX11_undo_16 : decode cX11_undo 16 = .ok (.getfield 332, 3) := by decide +kernel
theorem dX11_undo_19 : decode cX11_undo 19 = .ok (.iconst 1, 1) := by decide +kernel
theorem dX11_undo_20 : decode cX11_undo 20 = .ok (.isub, 1) := by decide +kernel
theorem dX11_undo_21 : decode cX11_undo 21 = .ok (.putfield 332, 3) := by decide +kernel
theorem dX11_undo_24 : decode cX11_undo 24 = .ok (.aload_n 0, 1) := by decide +kernel
theorem dX11_undo_25 : decode cX11_undo 25 = .ok (.getfield 25, 3) := by decide +kernel
theorem dX11_undo_28 : decode cX11_undo 28 = .ok (.aload_n 0, 1) := by decide +kernel
theorem dX11_undo_29 : decode cX11_undo 29 = .ok (.getfield 332, 3) := by decide +kernel
theorem dX11_undo_32 : decode cX11_undo 32 = .ok (.aaload, 1) := by decide +kernel
theorem dX11_undo_33 : decode cX11_undo 33 = .ok (.aload_n 0, 1) := by decide +kernel
theorem dX11_undo_34 : decode cX11_undo 34 = .ok (.getfield 17, 3) := by decide +kernel
theorem dX11_undo_37 : decode cX11_undo 37 = .ok (.invokestatic 207, 3) := by decide +kernel
theorem dX11_undo_40 : decode cX11_undo 40 = .ok (.aload_n 0, 1) := by decide +kernel
theorem dX11_undo_41 : decode cX11_undo 41 = .ok (.getfield 332, 3) := by decide +kernel
theorem dX11_undo_44 : decode cX11_undo 44 = .ok (.ireturn, 1) := by decide +kernel
theorem dX11_checksum_0 : decode cX11_checksum 0 = .ok (.aload_n 0, 1) := by decide +kernel
theorem dX11_checksum_1 : decode cX11_checksum 1 = .ok (.iconst 0, 1) := by decide +kernel
theorem dX11_checksum_2 : decode cX11_checksum 2 = .ok (.putfield 71, 3) := by decide +kernel
theorem dX11_checksum_5 : decode cX11_checksum 5 = .ok (.aload_n 0, 1) := by decide +kernel
theorem dX11_checksum_6 : decode cX11_checksum 6 = .ok (.invokevirtual 285, 3) := by decide +kernel
theorem dX11_checksum_9 : decode cX11_checksum 9 = .ok (.lconst 0, 1) := by decide +kernel
theorem dX11_checksum_10 : decode cX11_checksum 10 = .ok (.lstore_n 1, 1) := by decide +kernel
theorem dX11_checksum_11 : decode cX11_checksum 11 = .ok (.iconst 0, 1) := by decide +kernel
theorem dX11_checksum_12 : decode cX11_checksum 12 = .ok (.istore_n 3, 1) := by decide +kernel
theorem dX11_checksum_13 : decode cX11_checksum 13 = .ok (.iload_n 3, 1) := by decide +kernel
theorem dX11_checksum_14 : decode cX11_checksum 14 = .ok (.aload_n 0, 1) := by decide +kernel
theorem dX11_checksum_15 : decode cX11_checksum 15 = .ok (.getfield 17, 3) := by decide +kernel
theorem dX11_checksum_18 : decode cX11_checksum 18 = .ok (.iconst 3, 1) := by decide +kernel
theorem dX11_checksum_19 : decode cX11_checksum 19 = .ok (.iaload, 1) := by decide +kernel
theorem dX11_checksum_20 : decode cX11_checksum 20 = .ok (.if_icmp .ge 109, 3) := by decide +kernel
theorem dX11_checksum_23 : decode cX11_checksum 23 = .ok (.ldc2_w 335, 3) := by decide +kernel
theorem dX11_checksum_26 : decode cX11_checksum 26 = .ok (.lload_n 1, 1) := by decide +kernel
theorem dX11_checksum_27 : decode cX11_checksum 27 = .ok (.lmul, 1) := by decide +kernel
theorem dX11_checksum_28 : decode cX11_checksum 28 = .ok (.aload_n 0, 1) := by decide +kernel
theorem dX11_checksum_29 : decode cX11_checksum 29 = .ok (.getfield 17, 3) := by decide +kernel
theorem dX11_checksum_32 : decode cX11_checksum 32 = .ok (.iload_n 3, 1) := by decide +kernel
theorem dX11_checksum_33 : decode cX11_checksum 33 = .ok (.invokestatic 168, 3) := by decide +kernel
theorem dX11_checksum_36 : decode cX11_checksum 36 = .ok (.iconst 2, 1) := by decide +kernel
theorem dX11_checksum_37 : decode cX11_checksum 37 = .ok (.iadd, 1) := by decide +kernel
theorem dX11_checksum_38 : decode cX11_checksum 38 = .ok (.iaload, 1) := by decide +kernel
theorem dX11_checksum_39 : decode cX11_checksum 39 = .ok (.i2l, 1) := by decide +kernel
theorem dX11_checksum_40 : decode cX11_checksum 40 = .ok (.ladd, 1) := by decide +kernel
theorem dX11_checksum_41 : decode cX11_checksum 41 = .ok (.lstore_n 1, 1) := by decide +kernel
theorem dX11_checksum_42 : decode cX11_checksum 42 = .ok (.ldc2_w 335, 3) := by decide +kernel
theorem dX11_checksum_45 : decode cX11_checksum 45 = .ok (.lload_n 1, 1) := by decide +kernel
theorem dX11_checksum_46 : decode cX11_checksum 46 = .ok (.lmul, 1) := by decide +kernel
theorem dX11_checksum_47 : decode cX11_checksum 47 = .ok (.aload_n 0, 1) := by decide +kernel
theorem dX11_checksum_48 : decode cX11_checksum 48 = .ok (.getfield 35, 3) := by decide +kernel
theorem dX11_checksum_51 : decode cX11_checksum 51 = .ok (.iload_n 3, 1) := by decide +kernel
theorem dX11_checksum_52 : decode cX11_checksum 52 = .ok (.iaload, 1) := by decide +kernel
theorem dX11_checksum_53 : decode cX11_checksum 53 = .ok (.i2l, 1) := by decide +kernel
theorem dX11_checksum_54 : decode cX11_checksum 54 = .ok (.ladd, 1) := by decide +kernel
theorem dX11_checksum_55 : decode cX11_checksum 55 = .ok (.lstore_n 1, 1) := by decide +kernel
theorem dX11_checksum_56 : decode cX11_checksum 56 = .ok (.iconst 0, 1) := by decide +kernel
theorem dX11_checksum_57 : decode cX11_checksum 57 = .ok (.istore 4, 2) := by decide +kernel
theorem dX11_checksum_59 : decode cX11_checksum 59 = .ok (.iload 4, 2) := by decide +kernel
theorem dX11_checksum_61 : decode cX11_checksum 61 = .ok (.aload_n 0, 1) := by decide +kernel
theorem dX11_checksum_62 : decode cX11_checksum 62 = .ok (.getfield 17, 3) := by decide +kernel
theorem dX11_checksum_65 : decode cX11_checksum 65 = .ok (.iload_n 3, 1) := by decide +kernel
theorem dX11_checksum_66 : decode cX11_checksum 66 = .ok (.invokestatic 168, 3) := by decide +kernel
theorem dX11_checksum_69 : decode cX11_checksum 69 = .ok (.iconst 2, 1) := by decide +kernel
theorem dX11_checksum_70 : decode cX11_checksum 70 = .ok (.iadd, 1) := by decide +kernel
theorem dX11_checksum_71 : decode cX11_checksum 71 = .ok (.iaload, 1) := by decide +kernel
theorem dX11_checksum_72 : decode cX11_checksum 72 = .ok (.if_icmp .ge 51, 3) := by decide +kernel
theorem dX11_checksum_75 : decode cX11_checksum 75 = .ok (.ldc2_w 335, 3) := by decide +kernel
theorem dX11_checksum_78 : decode cX11_checksum 78 = .ok (.lload_n 1, 1) := by decide +kernel
theorem dX11_checksum_79 : decode cX11_checksum 79 = .ok (.lmul, 1) := by decide +kernel
theorem dX11_checksum_80 : decode cX11_checksum 80 = .ok (.aload_n 0, 1) := by decide +kernel
theorem dX11_checksum_81 : decode cX11_checksum 81 = .ok (.getfield 17, 3) := by decide +kernel
theorem dX11_checksum_84 : decode cX11_checksum 84 = .ok (.iload_n 3, 1) := by decide +kernel
theorem dX11_checksum_85 : decode cX11_checksum 85 = .ok (.invokestatic 168, 3) := by decide +kernel
theorem dX11_checksum_88 : decode cX11_checksum 88 = .ok (.iconst 3, 1) := by decide +kernel
theorem dX11_checksum_89 : decode cX11_checksum 89 = .ok (.iadd, 1) := by decide +kernel
theorem dX11_checksum_90 : decode cX11_checksum 90 = .ok (.iload 4, 2) := by decide +kernel
theorem dX11_checksum_92 : decode cX11_checksum 92 = .ok (.iadd, 1) := by decide +kernel
theorem dX11_checksum_93 : decode cX11_checksum 93 = .ok (.iaload, 1) := by decide +kernel
theorem dX11_checksum_94 : decode cX11_checksum 94 = .ok (.i2l, 1) := by decide +kernel
theorem dX11_checksum_95 : decode cX11_checksum 95 = .ok (.ladd, 1) := by decide +kernel
theorem dX11_checksum_96 : decode cX11_checksum 96 = .ok (.lstore_n 1, 1) := by decide +kernel
theorem dX11_checksum_97 : decode cX11_checksum 97 = .ok (.ldc2_w 335, 3) := by decide +kernel
theorem dX11_checksum_100 : decode cX11_checksum 100 = .ok (.lload_n 1, 1) := by decide +kernel
theorem dX11_checksum_101 : decode cX11_checksum 101 = .ok (.lmul, 1) := by decide +kernel
theorem dX11_checksum_102 : decode cX11_checksum 102 = .ok (.aload_n 0, 1) := by decide +kernel
theorem dX11_checksum_103 : decode cX11_checksum 103 = .ok (.getfield 44, 3) := by decide +kernel
theorem dX11_checksum_106 : decode cX11_checksum 106 = .ok (.bipush 12, 2) := by decide +kernel
theorem dX11_checksum_108 : decode cX11_checksum 108 = .ok (.iload_n 3, 1) := by decide +kernel
theorem dX11_checksum_109 : decode cX11_checksum 109 = .ok (.imul, 1) := by decide +kernel
theorem dX11_checksum_110 : decode cX11_checksum 110 = .ok (.iload 4, 2) := by decide +kernel
theorem dX11_checksum_112 : decode cX11_checksum 112 = .ok (.iadd, 1) := by decide +kernel
theorem dX11_checksum_113 : decode cX11_checksum 113 = .ok (.iaload, 1) := by decide +kernel
theorem dX11_checksum_114 : decode cX11_checksum 114 = .ok (.i2l, 1) := by decide +kernel
theorem dX11_checksum_115 : decode cX11_checksum 115 = .ok (.ladd, 1) := by decide +kernel
theorem dX11_checksum_116 : decode cX11_checksum 116 = .ok (.lstore_n 1, 1) := by decide +kernel
theorem dX11_checksum_117 : decode cX11_checksum 117 = .ok (.iinc 4 1, 3) := by decide +kernel
theorem dX11_checksum_120 : decode cX11_checksum 120 = .ok (.goto (-61), 3) := by decide +kernel
theorem dX11_checksum_123 : decode cX11_checksum 123 = .ok (.iinc 3 1, 3) := by decide +kernel
theorem dX11_checksum_126 : decode cX11_checksum 126 = .ok (.goto (-113), 3) := by decide +kernel
theorem dX11_checksum_129 : decode cX11_checksum 129 = .ok (.iconst 0, 1) := by decide +kernel
theorem dX11_checksum_130 : decode cX11_checksum 130 = .ok (.istore_n 3, 1) := by decide +kernel
theorem dX11_checksum_131 : decode cX11_checksum 131 = .ok (.iload_n 3, 1) := by decide +kernel
theorem dX11_checksum_132 : decode cX11_checksum 132 = .ok (.aload_n 0, 1) := by decide +kernel
theorem dX11_checksum_133 : decode cX11_checksum 133 = .ok (.getfield 17, 3) := by decide +kernel
theorem dX11_checksum_136 : decode cX11_checksum 136 = .ok (.iconst 2, 1) := by decide +kernel
theorem dX11_checksum_137 : decode cX11_checksum 137 = .ok (.iaload, 1) := by decide +kernel
theorem dX11_checksum_138 : decode cX11_checksum 138 = .ok (.if_icmp .ge 43, 3) := by decide +kernel
theorem dX11_checksum_141 : decode cX11_checksum 141 = .ok (.ldc2_w 335, 3) := by decide +kernel
theorem dX11_checksum_144 : decode cX11_checksum 144 = .ok (.lload_n 1, 1) := by decide +kernel
theorem dX11_checksum_145 : decode cX11_checksum 145 = .ok (.lmul, 1) := by decide +kernel
theorem dX11_checksum_146 : decode cX11_checksum 146 = .ok (.aload_n 0, 1) := by decide +kernel
theorem dX11_checksum_147 : decode cX11_checksum 147 = .ok (.getfield 50, 3) := by decide +kernel
theorem dX11_checksum_150 : decode cX11_checksum 150 = .ok (.iload_n 3, 1) := by decide +kernel
theorem dX11_checksum_151 : decode cX11_checksum 151 = .ok (.iaload, 1) := by decide +kernel
theorem dX11_checksum_152 : decode cX11_checksum 152 = .ok (.i2l, 1) := by decide +kernel
theorem dX11_checksum_153 : decode cX11_checksum 153 = .ok (.ladd, 1) := by decide +kernel
theorem dX11_checksum_154 : decode cX11_checksum 154 = .ok (.lstore_n 1, 1) := by decide +kernel
theorem dX11_checksum_155 : decode cX11_checksum 155 = .ok (.ldc2_w 335, 3) := by decide +kernel
theorem dX11_checksum_158 : decode cX11_checksum 158 = .ok (.lload_n 1, 1) := by decide +kernel
theorem dX11_checksum_159 : decode cX11_checksum 159 = .ok (.lmul, 1) := by decide +kernel
theorem dX11_checksum_160 : decode cX11_checksum 160 = .ok (.aload_n 0, 1) := by decide +kernel
theorem dX11_checksum_161 : decode cX11_checksum 161 = .ok (.getfield 17, 3) := by decide +kernel
theorem dX11_checksum_164 : decode cX11_checksum 164 = .ok (.iload_n 3, 1) := by decide +kernel
theorem dX11_checksum_165 : decode cX11_checksum 165 = .ok (.invokestatic 165, 3) := by decide +kernel
theorem dX11_checksum_168 : decode cX11_checksum 168 = .ok (.bipush 6, 2) := by decide +kernel
theorem dX11_checksum_170 : decode cX11_checksum 170 = .ok (.iadd, 1) := by decide +kernel
theorem dX11_checksum_171 : decode cX11_checksum 171 = .ok (.iaload, 1) := by decide +kernel
theorem dX11_checksum_172 : decode cX11_checksum 172 = .ok (.i2l, 1) := by decide +kernel
theorem dX11_checksum_173 : decode cX11_checksum 173 = .ok (.ladd, 1) := by decide +kernel
theorem dX11_checksum_174 : decode cX11_checksum 174 = .ok (.lstore_n 1, 1) := by decide +kernel
theorem dX11_checksum_175 : decode cX11_checksum 175 = .ok (.iinc 3 1, 3) := by decide +kernel
theorem dX11_checksum_178 : decode cX11_checksum 178 = .ok (.goto (-47), 3) := by decide +kernel
theorem dX11_checksum_181 : decode cX11_checksum 181 = .ok (.iconst 0, 1) := by decide +kernel
theorem dX11_checksum_182 : decode cX11_checksum 182 = .ok (.istore_n 3, 1) := by decide +kernel
theorem dX11_checksum_183 : decode cX11_checksum 183 = .ok (.iload_n 3, 1) := by decide +kernel
theorem dX11_checksum_184 : decode cX11_checksum 184 = .ok (.aload_n 0, 1) := by decide +kernel
theorem dX11_checksum_185 : decode cX11_checksum 185 = .ok (.getfield 17, 3) := by decide +kernel
theorem dX11_checksum_188 : decode cX11_checksum 188 = .ok (.iconst 1, 1) := by decide +kernel
theorem dX11_checksum_189 : decode cX11_checksum 189 = .ok (.iaload, 1) := by decide +kernel
theorem dX11_checksum_190 : decode cX11_checksum 190 = .ok (.if_icmp .ge 30, 3) := by decide +kernel
theorem dX11_checksum_193 : decode cX11_checksum 193 = .ok (.ldc2_w 335, 3) := by decide +kernel
theorem dX11_checksum_196 : decode cX11_checksum 196 = .ok (.lload_n 1, 1) := by decide +kernel
theorem dX11_checksum_197 : decode cX11_checksum 197 = .ok (.lmul, 1) := by decide +kernel
theorem dX11_checksum_198 : decode cX11_checksum 198 = .ok (.lconst 1, 1) := by decide +kernel
theorem dX11_checksum_199 : decode cX11_checksum 199 = .ok (.ladd, 1) := by decide +kernel
theorem dX11_checksum_200 : decode cX11_checksum 200 = .ok (.aload_n 0, 1) := by decide +kernel
theorem dX11_checksum_201 : decode cX11_checksum 201 = .ok (.getfield 17, 3) := by decide +kernel
theorem dX11_checksum_204 : decode cX11_checksum 204 = .ok (.iload_n 3, 1) := by decide +kernel
theorem dX11_checksum_205 : decode cX11_checksum 205 = .ok (.invokestatic 162, 3) := by decide +kernel
theorem dX11_checksum_208 : decode cX11_checksum 208 = .ok (.iconst 3, 1) := by decide +kernel
theorem dX11_checksum_209 : decode cX11_checksum 209 = .ok (.iadd, 1) := by decide +kernel
theorem dX11_checksum_210 : decode cX11_checksum 210 = .ok (.iaload, 1) := by decide +kernel
theorem dX11_checksum_211 : decode cX11_checksum 211 = .ok (.i2l, 1) := by decide +kernel
theorem dX11_checksum_212 : decode cX11_checksum 212 = .ok (.lsub, 1) := by decide +kernel
theorem dX11_checksum_213 : decode cX11_checksum 213 = .ok (.lstore_n 1, 1) := by decide +kernel
theorem dX11_checksum_214 : decode cX11_checksum 214 = .ok (.iinc 3 1, 3) := by decide +kernel
theorem dX11_checksum_217 : decode cX11_checksum 217 = .ok (.goto (-34), 3) := by decide +kernel
theorem dX11_checksum_220 : decode cX11_checksum 220 = .ok (.ldc2_w 335, 3) := by decide +kernel
theorem dX11_checksum_223 : decode cX11_checksum 223 = .ok (.lload_n 1, 1) := by decide +kernel
theorem dX11_checksum_224 : decode cX11_checksum 224 = .ok (.lmul, 1) := by decide +kernel
theorem dX11_checksum_225 : decode cX11_checksum 225 = .ok (.aload_n 0, 1) := by decide +kernel
theorem dX11_checksum_226 : decode cX11_checksum 226 = .ok (.getfield 252, 3) := by decide +kernel
theorem dX11_checksum_229 : decode cX11_checksum 229 = .ok (.i2l, 1) := by decide +kernel
theorem dX11_checksum_230 : decode cX11_checksum 230 = .ok (.ladd, 1) := by decide +kernel
theorem dX11_checksum_231 : decode cX11_checksum 231 = .ok (.lreturn, 1) := by decide +kernel

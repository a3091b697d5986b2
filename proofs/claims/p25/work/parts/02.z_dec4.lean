theorem dL_beside_1 : decode cL_beside 1 = .ok (.ifCond .ne 18, 3) := by decide +kernel
theorem dL_beside_4 : decode cL_beside 4 = .ok (.iload_n 0, 1) := by decide +kernel
theorem dL_beside_5 : decode cL_beside 5 = .ok (.bipush 8, 2) := by decide +kernel
theorem dL_beside_7 : decode cL_beside 7 = .ok (.if_icmp .ge 7, 3) := by decide +kernel
theorem dL_beside_10 : decode cL_beside 10 = .ok (.iconst (-1), 1) := by decide +kernel
theorem dL_beside_11 : decode cL_beside 11 = .ok (.goto 7, 3) := by decide +kernel
theorem dL_beside_14 : decode cL_beside 14 = .ok (.iload_n 0, 1) := by decide +kernel
theorem dL_beside_15 : decode cL_beside 15 = .ok (.bipush 8, 2) := by decide +kernel
theorem dL_beside_17 : decode cL_beside 17 = .ok (.isub, 1) := by decide +kernel
theorem dL_beside_18 : decode cL_beside 18 = .ok (.ireturn, 1) := by decide +kernel
theorem dL_beside_19 : decode cL_beside 19 = .ok (.iload_n 1, 1) := by decide +kernel
theorem dL_beside_20 : decode cL_beside 20 = .ok (.iconst 1, 1) := by decide +kernel
theorem dL_beside_21 : decode cL_beside 21 = .ok (.if_icmp .ne 20, 3) := by decide +kernel
theorem dL_beside_24 : decode cL_beside 24 = .ok (.iload_n 0, 1) := by decide +kernel
theorem dL_beside_25 : decode cL_beside 25 = .ok (.bipush 8, 2) := by decide +kernel
theorem dL_beside_27 : decode cL_beside 27 = .ok (.irem, 1) := by decide +kernel
theorem dL_beside_28 : decode cL_beside 28 = .ok (.bipush 7, 2) := by decide +kernel
theorem dL_beside_30 : decode cL_beside 30 = .ok (.if_icmp .ne 7, 3) := by decide +kernel
theorem dL_beside_33 : decode cL_beside 33 = .ok (.iconst (-1), 1) := by decide +kernel
theorem dL_beside_34 : decode cL_beside 34 = .ok (.goto 6, 3) := by decide +kernel
theorem dL_beside_37 : decode cL_beside 37 = .ok (.iload_n 0, 1) := by decide +kernel
theorem dL_beside_38 : decode cL_beside 38 = .ok (.iconst 1, 1) := by decide +kernel
theorem dL_beside_39 : decode cL_beside 39 = .ok (.iadd, 1) := by decide +kernel
theorem dL_beside_40 : decode cL_beside 40 = .ok (.ireturn, 1) := by decide +kernel
theorem dL_beside_41 : decode cL_beside 41 = .ok (.iload_n 1, 1) := by decide +kernel
theorem dL_beside_42 : decode cL_beside 42 = .ok (.iconst 2, 1) := by decide +kernel
theorem dL_beside_43 : decode cL_beside 43 = .ok (.if_icmp .ne 18, 3) := by decide +kernel
theorem dL_beside_46 : decode cL_beside 46 = .ok (.iload_n 0, 1) := by decide +kernel
theorem dL_beside_47 : decode cL_beside 47 = .ok (.bipush 55, 2) := by decide +kernel
theorem dL_beside_49 : decode cL_beside 49 = .ok (.if_icmp .le 7, 3) := by decide +kernel
theorem dL_beside_52 : decode cL_beside 52 = .ok (.iconst (-1), 1) := by decide +kernel
theorem dL_beside_53 : decode cL_beside 53 = .ok (.goto 7, 3) := by decide +kernel
theorem dL_beside_56 : decode cL_beside 56 = .ok (.iload_n 0, 1) := by decide +kernel
theorem dL_beside_57 : decode cL_beside 57 = .ok (.bipush 8, 2) := by decide +kernel
theorem dL_beside_59 : decode cL_beside 59 = .ok (.iadd, 1) := by decide +kernel
theorem dL_beside_60 : decode cL_beside 60 = .ok (.ireturn, 1) := by decide +kernel
theorem dL_beside_61 : decode cL_beside 61 = .ok (.iload_n 0, 1) := by decide +kernel
theorem dL_beside_62 : decode cL_beside 62 = .ok (.bipush 8, 2) := by decide +kernel
theorem dL_beside_64 : decode cL_beside 64 = .ok (.irem, 1) := by decide +kernel
theorem dL_beside_65 : decode cL_beside 65 = .ok (.ifCond .ne 7, 3) := by decide +kernel
theorem dL_beside_68 : decode cL_beside 68 = .ok (.iconst (-1), 1) := by decide +kernel
theorem dL_beside_69 : decode cL_beside 69 = .ok (.goto 6, 3) := by decide +kernel
theorem dL_beside_72 : decode cL_beside 72 = .ok (.iload_n 0, 1) := by decide +kernel
theorem dL_beside_73 : decode cL_beside 73 = .ok (.iconst 1, 1) := by decide +kernel
theorem dL_beside_74 : decode cL_beside 74 = .ok (.isub, 1) := by decide +kernel
theorem dL_beside_75 : decode cL_beside 75 = .ok (.ireturn, 1) := by decide +kernel
theorem dL_step_0 : decode cL_step 0 = .ok (.iload_n 0, 1) := by decide +kernel
theorem dL_step_1 : decode cL_step 1 = .ok (.iload_n 1, 1) := by decide +kernel
theorem dL_step_2 : decode cL_step 2 = .ok (.invokestatic 8, 3) := by decide +kernel
theorem dL_step_5 : decode cL_step 5 = .ok (.istore_n 3, 1) := by decide +kernel
theorem dL_step_6 : decode cL_step 6 = .ok (.iload_n 3, 1) := by decide +kernel
theorem dL_step_7 : decode cL_step 7 = .ok (.ifCond .lt 21, 3) := by decide +kernel
theorem dL_step_10 : decode cL_step 10 = .ok (.aload_n 2, 1) := by decide +kernel
theorem dL_step_11 : decode cL_step 11 = .ok (.iload_n 3, 1) := by decide +kernel
theorem dL_step_12 : decode cL_step 12 = .ok (.iaload, 1) := by decide +kernel
theorem dL_step_13 : decode cL_step 13 = .ok (.aload_n 2, 1) := by decide +kernel
theorem dL_step_14 : decode cL_step 14 = .ok (.iload_n 0, 1) := by decide +kernel
theorem dL_step_15 : decode cL_step 15 = .ok (.iaload, 1) := by decide +kernel
theorem dL_step_16 : decode cL_step 16 = .ok (.isub, 1) := by decide +kernel
theorem dL_step_17 : decode cL_step 17 = .ok (.invokestatic 14, 3) := by decide +kernel
theorem dL_step_20 : decode cL_step 20 = .ok (.iconst 3, 1) := by decide +kernel
theorem dL_step_21 : decode cL_step 21 = .ok (.if_icmp .ge 7, 3) := by decide +kernel
theorem dL_step_24 : decode cL_step 24 = .ok (.iload_n 3, 1) := by decide +kernel
theorem dL_step_25 : decode cL_step 25 = .ok (.goto 4, 3) := by decide +kernel
theorem dL_step_28 : decode cL_step 28 = .ok (.iconst (-1), 1) := by decide +kernel
theorem dL_step_29 : decode cL_step 29 = .ok (.ireturn, 1) := by decide +kernel
theorem dL_who_0 : decode cL_who 0 = .ok (.iconst 0, 1) := by decide +kernel
theorem dL_who_1 : decode cL_who 1 = .ok (.istore_n 3, 1) := by decide +kernel
theorem dL_who_2 : decode cL_who 2 = .ok (.iload_n 3, 1) := by decide +kernel
theorem dL_who_3 : decode cL_who 3 = .ok (.aload_n 2, 1) := by decide +kernel
theorem dL_who_4 : decode cL_who 4 = .ok (.iconst 1, 1) := by decide +kernel
theorem dL_who_5 : decode cL_who 5 = .ok (.iaload, 1) := by decide +kernel
theorem dL_who_6 : decode cL_who 6 = .ok (.if_icmp .ge 35, 3) := by decide +kernel
theorem dL_who_9 : decode cL_who 9 = .ok (.aload_n 1, 1) := by decide +kernel
theorem dL_who_10 : decode cL_who 10 = .ok (.bipush 8, 2) := by decide +kernel
theorem dL_who_12 : decode cL_who 12 = .ok (.iload_n 3, 1) := by decide +kernel
theorem dL_who_13 : decode cL_who 13 = .ok (.imul, 1) := by decide +kernel
theorem dL_who_14 : decode cL_who 14 = .ok (.iconst 4, 1) := by decide +kernel
theorem dL_who_15 : decode cL_who 15 = .ok (.iadd, 1) := by decide +kernel
theorem dL_who_16 : decode cL_who 16 = .ok (.iaload, 1) := by decide +kernel
theorem dL_who_17 : decode cL_who 17 = .ok (.iconst 2, 1) := by decide +kernel
theorem dL_who_18 : decode cL_who 18 = .ok (.if_icmp .ge 17, 3) := by decide +kernel
theorem dL_who_21 : decode cL_who 21 = .ok (.aload_n 1, 1) := by decide +kernel
theorem dL_who_22 : decode cL_who 22 = .ok (.bipush 8, 2) := by decide +kernel
theorem dL_who_24 : decode cL_who 24 = .ok (.iload_n 3, 1) := by decide +kernel
theorem dL_who_25 : decode cL_who 25 = .ok (.imul, 1) := by decide +kernel
theorem dL_who_26 : decode cL_who 26 = .ok (.iconst 1, 1) := by decide +kernel
theorem dL_who_27 : decode cL_who 27 = .ok (.iadd, 1) := by decide +kernel
theorem dL_who_28 : decode cL_who 28 = .ok (.iaload, 1) := by decide +kernel
theorem dL_who_29 : decode cL_who 29 = .ok (.iload_n 0, 1) := by decide +kernel
theorem dL_who_30 : decode cL_who 30 = .ok (.if_icmp .ne 5, 3) := by decide +kernel
theorem dL_who_33 : decode cL_who 33 = .ok (.iload_n 3, 1) := by decide +kernel
theorem dL_who_34 : decode cL_who 34 = .ok (.ireturn, 1) := by decide +kernel
theorem dL_who_35 : decode cL_who 35 = .ok (.iinc 3 1, 3) := by decide +kernel
theorem dL_who_38 : decode cL_who 38 = .ok (.goto (-36), 3) := by decide +kernel
theorem dL_who_41 : decode cL_who 41 = .ok (.iconst (-1), 1) := by decide +kernel
theorem dL_who_42 : decode cL_who 42 = .ok (.ireturn, 1) := by decide +kernel
theorem dL_floor_0 : decode cL_floor 0 = .ok (.iload_n 0, 1) := by decide +kernel
theorem dL_floor_1 : decode cL_floor 1 = .ok (.iload_n 1, 1) := by decide +kernel
theorem dL_floor_2 : decode cL_floor 2 = .ok (.idiv, 1) := by decide +kernel
theorem dL_floor_3 : decode cL_floor 3 = .ok (.istore_n 2, 1) := by decide +kernel
theorem dL_floor_4 : decode cL_floor 4 = .ok (.iload_n 2, 1) := by decide +kernel
theorem dL_floor_5 : decode cL_floor 5 = .ok (.iload_n 1, 1) := by decide +kernel
theorem dL_floor_6 : decode cL_floor 6 = .ok (.imul, 1) := by decide +kernel
theorem dL_floor_7 : decode cL_floor 7 = .ok (.iload_n 0, 1) := by decide +kernel
theorem dL_floor_8 : decode cL_floor 8 = .ok (.if_icmp .le 9, 3) := by decide +kernel
theorem dL_floor_11 : decode cL_floor 11 = .ok (.iload_n 2, 1) := by decide +kernel
theorem dL_floor_12 : decode cL_floor 12 = .ok (.iconst 1, 1) := by decide +kernel
theorem dL_floor_13 : decode cL_floor 13 = .ok (.isub, 1) := by decide +kernel
theorem dL_floor_14 : decode cL_floor 14 = .ok (.goto 4, 3) := by decide +kernel
theorem dL_floor_17 : decode cL_floor 17 = .ok (.iload_n 2, 1) := by decide +kernel
theorem dL_floor_18 : decode cL_floor 18 = .ok (.ireturn, 1) := by decide +kernel
theorem dL_sees_0 : decode cL_sees 0 = .ok (.iload_n 0, 1) := by decide +kernel
theorem dL_sees_1 : decode cL_sees 1 = .ok (.iload_n 1, 1) := by decide +kernel
theorem dL_sees_2 : decode cL_sees 2 = .ok (.if_icmp .ge 7, 3) := by decide +kernel
theorem dL_sees_5 : decode cL_sees 5 = .ok (.iload_n 0, 1) := by decide +kernel
theorem dL_sees_6 : decode cL_sees 6 = .ok (.goto 4, 3) := by decide +kernel
theorem dL_sees_9 : decode cL_sees 9 = .ok (.iload_n 1, 1) := by decide +kernel
theorem dL_sees_10 : decode cL_sees 10 = .ok (.istore_n 3, 1) := by decide +kernel
theorem dL_sees_11 : decode cL_sees 11 = .ok (.iload_n 0, 1) := by decide +kernel
theorem dL_sees_12 : decode cL_sees 12 = .ok (.iload_n 1, 1) := by decide +kernel
theorem dL_sees_13 : decode cL_sees 13 = .ok (.iadd, 1) := by decide +kernel
theorem dL_sees_14 : decode cL_sees 14 = .ok (.iload_n 3, 1) := by decide +kernel
theorem dL_sees_15 : decode cL_sees 15 = .ok (.isub, 1) := by decide +kernel
theorem dL_sees_16 : decode cL_sees 16 = .ok (.istore 4, 2) := by decide +kernel
theorem dL_sees_18 : decode cL_sees 18 = .ok (.iload 4, 2) := by decide +kernel
theorem dL_sees_20 : decode cL_sees 20 = .ok (.bipush 8, 2) := by decide +kernel
theorem dL_sees_22 : decode cL_sees 22 = .ok (.irem, 1) := by decide +kernel
theorem dL_sees_23 : decode cL_sees 23 = .ok (.iload_n 3, 1) := by decide +kernel
theorem dL_sees_24 : decode cL_sees 24 = .ok (.bipush 8, 2) := by decide +kernel
theorem dL_sees_26 : decode cL_sees 26 = .ok (.irem, 1) := by decide +kernel
theorem dL_sees_27 : decode cL_sees 27 = .ok (.isub, 1) := by decide +kernel
theorem dL_sees_28 : decode cL_sees 28 = .ok (.istore 5, 2) := by decide +kernel
theorem dL_sees_30 : decode cL_sees 30 = .ok (.iload 4, 2) := by decide +kernel
theorem dL_sees_32 : decode cL_sees 32 = .ok (.bipush 8, 2) := by decide +kernel
theorem dL_sees_34 : decode cL_sees 34 = .ok (.idiv, 1) := by decide +kernel
theorem dL_sees_35 : decode cL_sees 35 = .ok (.iload_n 3, 1) := by decide +kernel
theorem dL_sees_36 : decode cL_sees 36 = .ok (.bipush 8, 2) := by decide +kernel
theorem dL_sees_38 : decode cL_sees 38 = .ok (.idiv, 1) := by decide +kernel
theorem dL_sees_39 : decode cL_sees 39 = .ok (.isub, 1) := by decide +kernel
theorem dL_sees_40 : decode cL_sees 40 = .ok (.istore 6, 2) := by decide +kernel
theorem dL_sees_42 : decode cL_sees 42 = .ok (.iload 5, 2) := by decide +kernel
theorem dL_sees_44 : decode cL_sees 44 = .ok (.invokestatic 14, 3) := by decide +kernel
theorem dL_sees_47 : decode cL_sees 47 = .ok (.iload 6, 2) := by decide +kernel
theorem dL_sees_49 : decode cL_sees 49 = .ok (.invokestatic 14, 3) := by decide +kernel
theorem dL_sees_52 : decode cL_sees 52 = .ok (.if_icmp .le 11, 3) := by decide +kernel
theorem dL_sees_55 : decode cL_sees 55 = .ok (.iload 5, 2) := by decide +kernel
theorem dL_sees_57 : decode cL_sees 57 = .ok (.invokestatic 14, 3) := by decide +kernel
theorem dL_sees_60 : decode cL_sees 60 = .ok (.goto 8, 3) := by decide +kernel
theorem dL_sees_63 : decode cL_sees 63 = .ok (.iload 6, 2) := by decide +kernel
theorem dL_sees_65 : decode cL_sees 65 = .ok (.invokestatic 14, 3) := by decide +kernel
theorem dL_sees_68 : decode cL_sees 68 = .ok (.istore 7, 2) := by decide +kernel
theorem dL_sees_70 : decode cL_sees 70 = .ok (.iconst 1, 1) := by decide +kernel
theorem dL_sees_71 : decode cL_sees 71 = .ok (.istore 8, 2) := by decide +kernel
theorem dL_sees_73 : decode cL_sees 73 = .ok (.iload 8, 2) := by decide +kernel
theorem dL_sees_75 : decode cL_sees 75 = .ok (.iload 7, 2) := by decide +kernel
theorem dL_sees_77 : decode cL_sees 77 = .ok (.if_icmp .ge 92, 3) := by decide +kernel
theorem dL_sees_80 : decode cL_sees 80 = .ok (.bipush 8, 2) := by decide +kernel
theorem dL_sees_82 : decode cL_sees 82 = .ok (.iload_n 3, 1) := by decide +kernel
theorem dL_sees_83 : decode cL_sees 83 = .ok (.bipush 8, 2) := by decide +kernel
theorem dL_sees_85 : decode cL_sees 85 = .ok (.idiv, 1) := by decide +kernel
theorem dL_sees_86 : decode cL_sees 86 = .ok (.iconst 2, 1) := by decide +kernel
theorem dL_sees_87 : decode cL_sees 87 = .ok (.iload 8, 2) := by decide +kernel
theorem dL_sees_89 : decode cL_sees 89 = .ok (.imul, 1) := by decide +kernel
theorem dL_sees_90 : decode cL_sees 90 = .ok (.iload 6, 2) := by decide +kernel
theorem dL_sees_92 : decode cL_sees 92 = .ok (.imul, 1) := by decide +kernel
theorem dL_sees_93 : decode cL_sees 93 = .ok (.iload 7, 2) := by decide +kernel
theorem dL_sees_95 : decode cL_sees 95 = .ok (.iadd, 1) := by decide +kernel
theorem dL_sees_96 : decode cL_sees 96 = .ok (.iconst 2, 1) := by decide +kernel
theorem dL_sees_97 : decode cL_sees 97 = .ok (.iload 7, 2) := by decide +kernel
theorem dL_sees_99 : decode cL_sees 99 = .ok (.imul, 1) := by decide +kernel
theorem dL_sees_100 : decode cL_sees 100 = .ok (.invokestatic 18, 3) := by decide +kernel
theorem dL_sees_103 : decode cL_sees 103 = .ok (.iadd, 1) := by decide +kernel
theorem dL_sees_104 : decode cL_sees 104 = .ok (.imul, 1) := by decide +kernel
theorem dL_sees_105 : decode cL_sees 105 = .ok (.iload_n 3, 1) := by decide +kernel
theorem dL_sees_106 : decode cL_sees 106 = .ok (.bipush 8, 2) := by decide +kernel
theorem dL_sees_108 : decode cL_sees 108 = .ok (.irem, 1) := by decide +kernel
theorem dL_sees_109 : decode cL_sees 109 = .ok (.iadd, 1) := by decide +kernel
theorem dL_sees_110 : decode cL_sees 110 = .ok (.iconst 2, 1) := by decide +kernel
theorem dL_sees_111 : decode cL_sees 111 = .ok (.iload 8, 2) := by decide +kernel
theorem dL_sees_113 : decode cL_sees 113 = .ok (.imul, 1) := by decide +kernel
theorem dL_sees_114 : decode cL_sees 114 = .ok (.iload 5, 2) := by decide +kernel
theorem dL_sees_116 : decode cL_sees 116 = .ok (.imul, 1) := by decide +kernel
theorem dL_sees_117 : decode cL_sees 117 = .ok (.iload 7, 2) := by decide +kernel
theorem dL_sees_119 : decode cL_sees 119 = .ok (.iadd, 1) := by decide +kernel
theorem dL_sees_120 : decode cL_sees 120 = .ok (.iconst 2, 1) := by decide +kernel
theorem dL_sees_121 : decode cL_sees 121 = .ok (.iload 7, 2) := by decide +kernel
theorem dL_sees_123 : decode cL_sees 123 = .ok (.imul, 1) := by decide +kernel
theorem dL_sees_124 : decode cL_sees 124 = .ok (.invokestatic 18, 3) := by decide +kernel
theorem dL_sees_127 : decode cL_sees 127 = .ok (.iadd, 1) := by decide +kernel
theorem dL_sees_128 : decode cL_sees 128 = .ok (.istore 9, 2) := by decide +kernel
theorem dL_sees_130 : decode cL_sees 130 = .ok (.aload_n 2, 1) := by decide +kernel
theorem dL_sees_131 : decode cL_sees 131 = .ok (.iload 9, 2) := by decide +kernel
theorem dL_sees_133 : decode cL_sees 133 = .ok (.iaload, 1) := by decide +kernel
theorem dL_sees_134 : decode cL_sees 134 = .ok (.iload 7, 2) := by decide +kernel
theorem dL_sees_136 : decode cL_sees 136 = .ok (.imul, 1) := by decide +kernel
theorem dL_sees_137 : decode cL_sees 137 = .ok (.aload_n 2, 1) := by decide +kernel
theorem dL_sees_138 : decode cL_sees 138 = .ok (.iload_n 3, 1) := by decide +kernel
theorem dL_sees_139 : decode cL_sees 139 = .ok (.iaload, 1) := by decide +kernel
theorem dL_sees_140 : decode cL_sees 140 = .ok (.iconst 1, 1) := by decide +kernel
theorem dL_sees_141 : decode cL_sees 141 = .ok (.iadd, 1) := by decide +kernel
theorem dL_sees_142 : decode cL_sees 142 = .ok (.iload 7, 2) := by decide +kernel
theorem dL_sees_144 : decode cL_sees 144 = .ok (.iload 8, 2) := by decide +kernel
theorem dL_sees_146 : decode cL_sees 146 = .ok (.isub, 1) := by decide +kernel
theorem dL_sees_147 : decode cL_sees 147 = .ok (.imul, 1) := by decide +kernel
theorem dL_sees_148 : decode cL_sees 148 = .ok (.aload_n 2, 1) := by decide +kernel
theorem dL_sees_149 : decode cL_sees 149 = .ok (.iload 4, 2) := by decide +kernel
theorem dL_sees_151 : decode cL_sees 151 = .ok (.iaload, 1) := by decide +kernel
theorem dL_sees_152 : decode cL_sees 152 = .ok (.iconst 1, 1) := by decide +kernel
theorem dL_sees_153 : decode cL_sees 153 = .ok (.iadd, 1) := by decide +kernel
theorem dL_sees_154 : decode cL_sees 154 = .ok (.iload 8, 2) := by decide +kernel
theorem dL_sees_156 : decode cL_sees 156 = .ok (.imul, 1) := by decide +kernel
theorem dL_sees_157 : decode cL_sees 157 = .ok (.iadd, 1) := by decide +kernel
theorem dL_sees_158 : decode cL_sees 158 = .ok (.if_icmp .le 5, 3) := by decide +kernel
theorem dL_sees_161 : decode cL_sees 161 = .ok (.iconst 0, 1) := by decide +kernel
theorem dL_sees_162 : decode cL_sees 162 = .ok (.ireturn, 1) := by decide +kernel
theorem dL_sees_163 : decode cL_sees 163 = .ok (.iinc 8 1, 3) := by decide +kernel
theorem dL_sees_166 : decode cL_sees 166 = .ok (.goto (-93), 3) := by decide +kernel
theorem dL_sees_169 : decode cL_sees 169 = .ok (.iconst 1, 1) := by decide +kernel
theorem dL_sees_170 : decode cL_sees 170 = .ok (.ireturn, 1) := by decide +kernel
theorem dL_spread_0 : decode cL_spread 0 = .ok (.iconst 0, 1) := by decide +kernel
theorem dL_spread_1 : decode cL_spread 1 = .ok (.istore 6, 2) := by decide +kernel
theorem dL_spread_3 : decode cL_spread 3 = .ok (.iload 6, 2) := by decide +kernel
theorem dL_spread_5 : decode cL_spread 5 = .ok (.bipush 64, 2) := by decide +kernel
theorem dL_spread_7 : decode cL_spread 7 = .ok (.if_icmp .ge 16, 3) := by decide +kernel
theorem dL_spread_10 : decode cL_spread 10 = .ok (.aload_n 2, 1) := by decide +kernel
theorem dL_spread_11 : decode cL_spread 11 = .ok (.iload 6, 2) := by decide +kernel
theorem dL_spread_13 : decode cL_spread 13 = .ok (.sipush 999, 3) := by decide +kernel
theorem dL_spread_16 : decode cL_spread 16 = .ok (.iastore, 1) := by decide +kernel
theorem dL_spread_17 : decode cL_spread 17 = .ok (.iinc 6 1, 3) := by decide +kernel
theorem dL_spread_20 : decode cL_spread 20 = .ok (.goto (-17), 3) := by decide +kernel
theorem dL_spread_23 : decode cL_spread 23 = .ok (.aload_n 2, 1) := by decide +kernel
theorem dL_spread_24 : decode cL_spread 24 = .ok (.iload_n 0, 1) := by decide +kernel
theorem dL_spread_25 : decode cL_spread 25 = .ok (.iconst 0, 1) := by decide +kernel
theorem dL_spread_26 : decode cL_spread 26 = .ok (.iastore, 1) := by decide +kernel
theorem dL_spread_27 : decode cL_spread 27 = .ok (.iconst 1, 1) := by decide +kernel
theorem dL_spread_28 : decode cL_spread 28 = .ok (.istore 6, 2) := by decide +kernel
theorem dL_spread_30 : decode cL_spread 30 = .ok (.iload 6, 2) := by decide +kernel
theorem dL_spread_32 : decode cL_spread 32 = .ok (.ifCond .eq 113, 3) := by decide +kernel
theorem dL_spread_35 : decode cL_spread 35 = .ok (.iconst 0, 1) := by decide +kernel
theorem dL_spread_36 : decode cL_spread 36 = .ok (.istore 6, 2) := by decide +kernel
theorem dL_spread_38 : decode cL_spread 38 = .ok (.iconst 0, 1) := by decide +kernel
theorem dL_spread_39 : decode cL_spread 39 = .ok (.istore 7, 2) := by decide +kernel
theorem dL_spread_41 : decode cL_spread 41 = .ok (.iload 7, 2) := by decide +kernel
theorem dL_spread_43 : decode cL_spread 43 = .ok (.bipush 64, 2) := by decide +kernel
theorem dL_spread_45 : decode cL_spread 45 = .ok (.if_icmp .ge 97, 3) := by decide +kernel
theorem dL_spread_48 : decode cL_spread 48 = .ok (.iconst 0, 1) := by decide +kernel
theorem dL_spread_49 : decode cL_spread 49 = .ok (.istore 8, 2) := by decide +kernel
theorem dL_spread_51 : decode cL_spread 51 = .ok (.iload 8, 2) := by decide +kernel
theorem dL_spread_53 : decode cL_spread 53 = .ok (.iconst 4, 1) := by decide +kernel
theorem dL_spread_54 : decode cL_spread 54 = .ok (.if_icmp .ge 82, 3) := by decide +kernel
theorem dL_spread_57 : decode cL_spread 57 = .ok (.iload 7, 2) := by decide +kernel
theorem dL_spread_59 : decode cL_spread 59 = .ok (.iload 8, 2) := by decide +kernel
theorem dL_spread_61 : decode cL_spread 61 = .ok (.aload_n 3, 1) := by decide +kernel
theorem dL_spread_62 : decode cL_spread 62 = .ok (.invokestatic 21, 3) := by decide +kernel
theorem dL_spread_65 : decode cL_spread 65 = .ok (.istore 9, 2) := by decide +kernel
theorem dL_spread_67 : decode cL_spread 67 = .ok (.iload 9, 2) := by decide +kernel
theorem dL_spread_69 : decode cL_spread 69 = .ok (.ifCond .lt 61, 3) := by decide +kernel
theorem dL_spread_72 : decode cL_spread 72 = .ok (.aload_n 2, 1) := by decide +kernel
theorem dL_spread_73 : decode cL_spread 73 = .ok (.iload 9, 2) := by decide +kernel
theorem dL_spread_75 : decode cL_spread 75 = .ok (.iaload, 1) := by decide +kernel
theorem dL_spread_76 : decode cL_spread 76 = .ok (.iconst 1, 1) := by decide +kernel
theorem dL_spread_77 : decode cL_spread 77 = .ok (.iadd, 1) := by decide +kernel
theorem dL_spread_78 : decode cL_spread 78 = .ok (.aload_n 2, 1) := by decide +kernel
theorem dL_spread_79 : decode cL_spread 79 = .ok (.iload 7, 2) := by decide +kernel
theorem dL_spread_81 : decode cL_spread 81 = .ok (.iaload, 1) := by decide +kernel
theorem dL_spread_82 : decode cL_spread 82 = .ok (.if_icmp .ge 48, 3) := by decide +kernel
theorem dL_spread_85 : decode cL_spread 85 = .ok (.iload_n 1, 1) := by decide +kernel
theorem dL_spread_86 : decode cL_spread 86 = .ok (.ifCond .lt 31, 3) := by decide +kernel
theorem dL_spread_89 : decode cL_spread 89 = .ok (.iload 7, 2) := by decide +kernel
theorem dL_spread_91 : decode cL_spread 91 = .ok (.aload 4, 2) := by decide +kernel
theorem dL_spread_93 : decode cL_spread 93 = .ok (.aload 5, 2) := by decide +kernel
theorem dL_spread_95 : decode cL_spread 95 = .ok (.invokestatic 25, 3) := by decide +kernel
theorem dL_spread_98 : decode cL_spread 98 = .ok (.ifCond .lt 19, 3) := by decide +kernel
theorem dL_spread_101 : decode cL_spread 101 = .ok (.iload 7, 2) := by decide +kernel
theorem dL_spread_103 : decode cL_spread 103 = .ok (.aload 4, 2) := by decide +kernel
theorem dL_spread_105 : decode cL_spread 105 = .ok (.aload 5, 2) := by decide +kernel
theorem dL_spread_107 : decode cL_spread 107 = .ok (.invokestatic 25, 3) := by decide +kernel
theorem dL_spread_110 : decode cL_spread 110 = .ok (.iload_n 1, 1) := by decide +kernel
theorem dL_spread_111 : decode cL_spread 111 = .ok (.if_icmp .eq 6, 3) := by decide +kernel
theorem dL_spread_114 : decode cL_spread 114 = .ok (.goto 16, 3) := by decide +kernel
theorem dL_spread_117 : decode cL_spread 117 = .ok (.aload_n 2, 1) := by decide +kernel
theorem dL_spread_118 : decode cL_spread 118 = .ok (.iload 7, 2) := by decide +kernel
theorem dL_spread_120 : decode cL_spread 120 = .ok (.aload_n 2, 1) := by decide +kernel
theorem dL_spread_121 : decode cL_spread 121 = .ok (.iload 9, 2) := by decide +kernel
theorem dL_spread_123 : decode cL_spread 123 = .ok (.iaload, 1) := by decide +kernel
theorem dL_spread_124 : decode cL_spread 124 = .ok (.iconst 1, 1) := by decide +kernel
theorem dL_spread_125 : decode cL_spread 125 = .ok (.iadd, 1) := by decide +kernel
theorem dL_spread_126 : decode cL_spread 126 = .ok (.iastore, 1) := by decide +kernel
theorem dL_spread_127 : decode cL_spread 127 = .ok (.iconst 1, 1) := by decide +kernel
theorem dL_spread_128 : decode cL_spread 128 = .ok (.istore 6, 2) := by decide +kernel
theorem dL_spread_130 : decode cL_spread 130 = .ok (.iinc 8 1, 3) := by decide +kernel
theorem dL_spread_133 : decode cL_spread 133 = .ok (.goto (-82), 3) := by decide +kernel
theorem dL_spread_136 : decode cL_spread 136 = .ok (.iinc 7 1, 3) := by decide +kernel
theorem dL_spread_139 : decode cL_spread 139 = .ok (.goto (-98), 3) := by decide +kernel
theorem dL_spread_142 : decode cL_spread 142 = .ok (.goto (-112), 3) := by decide +kernel
theorem dL_spread_145 : decode cL_spread 145 = .ok (.return_, 1) := by decide +kernel
theorem dL_time_0 : decode cL_time 0 = .ok (.aload_n 3, 1) := by decide +kernel
theorem dL_time_1 : decode cL_time 1 = .ok (.bipush 8, 2) := by decide +kernel
theorem dL_time_3 : decode cL_time 3 = .ok (.iload_n 1, 1) := by decide +kernel
theorem dL_time_4 : decode cL_time 4 = .ok (.imul, 1) := by decide +kernel
theorem dL_time_5 : decode cL_time 5 = .ok (.iconst 1, 1) := by decide +kernel
theorem dL_time_6 : decode cL_time 6 = .ok (.iadd, 1) := by decide +kernel
theorem dL_time_7 : decode cL_time 7 = .ok (.iaload, 1) := by decide +kernel
theorem dL_time_8 : decode cL_time 8 = .ok (.istore 5, 2) := by decide +kernel
theorem dL_time_10 : decode cL_time 10 = .ok (.iload_n 0, 1) := by decide +kernel
theorem dL_time_11 : decode cL_time 11 = .ok (.iload 5, 2) := by decide +kernel
theorem dL_time_13 : decode cL_time 13 = .ok (.aload_n 2, 1) := by decide +kernel
theorem dL_time_14 : decode cL_time 14 = .ok (.invokestatic 29, 3) := by decide +kernel
theorem dL_time_17 : decode cL_time 17 = .ok (.ifCond .eq 5, 3) := by decide +kernel
theorem dL_time_20 : decode cL_time 20 = .ok (.iconst 1, 1) := by decide +kernel
theorem dL_time_21 : decode cL_time 21 = .ok (.ireturn, 1) := by decide +kernel
theorem dL_time_22 : decode cL_time 22 = .ok (.bipush 64, 2) := by decide +kernel
theorem dL_time_24 : decode cL_time 24 = .ok (.newarray .int, 2) := by decide +kernel
theorem dL_time_26 : decode cL_time 26 = .ok (.astore 6, 2) := by decide +kernel
theorem dL_time_28 : decode cL_time 28 = .ok (.iload_n 0, 1) := by decide +kernel
theorem dL_time_29 : decode cL_time 29 = .ok (.iconst (-1), 1) := by decide +kernel
theorem dL_time_30 : decode cL_time 30 = .ok (.aload 6, 2) := by decide +kernel
theorem dL_time_32 : decode cL_time 32 = .ok (.aload_n 2, 1) := by decide +kernel
theorem dL_time_33 : decode cL_time 33 = .ok (.aload_n 3, 1) := by decide +kernel
theorem dL_time_34 : decode cL_time 34 = .ok (.aload 4, 2) := by decide +kernel
theorem dL_time_36 : decode cL_time 36 = .ok (.invokestatic 33, 3) := by decide +kernel
theorem dL_time_39 : decode cL_time 39 = .ok (.aload 6, 2) := by decide +kernel
theorem dL_time_41 : decode cL_time 41 = .ok (.iload 5, 2) := by decide +kernel
theorem dL_time_43 : decode cL_time 43 = .ok (.iaload, 1) := by decide +kernel
theorem dL_time_44 : decode cL_time 44 = .ok (.sipush 999, 3) := by decide +kernel
theorem dL_time_47 : decode cL_time 47 = .ok (.if_icmp .ne 7, 3) := by decide +kernel
theorem dL_time_50 : decode cL_time 50 = .ok (.iconst (-1), 1) := by decide +kernel
theorem dL_time_51 : decode cL_time 51 = .ok (.goto 12, 3) := by decide +kernel
theorem dL_time_54 : decode cL_time 54 = .ok (.aload 6, 2) := by decide +kernel
theorem dL_time_56 : decode cL_time 56 = .ok (.iload 5, 2) := by decide +kernel
theorem dL_time_58 : decode cL_time 58 = .ok (.iaload, 1) := by decide +kernel
theorem dL_time_59 : decode cL_time 59 = .ok (.iconst 2, 1) := by decide +kernel
theorem dL_time_60 : decode cL_time 60 = .ok (.iadd, 1) := by decide +kernel
theorem dL_time_61 : decode cL_time 61 = .ok (.iconst 3, 1) := by decide +kernel
theorem dL_time_62 : decode cL_time 62 = .ok (.idiv, 1) := by decide +kernel
theorem dL_time_63 : decode cL_time 63 = .ok (.ireturn, 1) := by decide +kernel
theorem dL_why_0 : decode cL_why 0 = .ok (.aload_n 2, 1) := by decide +kernel
theorem dL_why_1 : decode cL_why 1 = .ok (.bipush 8, 2) := by decide +kernel
theorem dL_why_3 : decode cL_why 3 = .ok (.iload_n 0, 1) := by decide +kernel
theorem dL_why_4 : decode cL_why 4 = .ok (.imul, 1) := by decide +kernel
theorem dL_why_5 : decode cL_why 5 = .ok (.iconst 4, 1) := by decide +kernel
theorem dL_why_6 : decode cL_why 6 = .ok (.iadd, 1) := by decide +kernel
theorem dL_why_7 : decode cL_why 7 = .ok (.iaload, 1) := by decide +kernel
theorem dL_why_8 : decode cL_why 8 = .ok (.iconst 2, 1) := by decide +kernel
theorem dL_why_9 : decode cL_why 9 = .ok (.if_icmp .ne 7, 3) := by decide +kernel
theorem dL_why_12 : decode cL_why 12 = .ok (.iconst 1, 1) := by decide +kernel
theorem dL_why_13 : decode cL_why 13 = .ok (.goto 29, 3) := by decide +kernel
theorem dL_why_16 : decode cL_why 16 = .ok (.aload_n 3, 1) := by decide +kernel
theorem dL_why_17 : decode cL_why 17 = .ok (.bipush 7, 2) := by decide +kernel
theorem dL_why_19 : decode cL_why 19 = .ok (.aload_n 2, 1) := by decide +kernel
theorem dL_why_20 : decode cL_why 20 = .ok (.bipush 8, 2) := by decide +kernel
theorem dL_why_22 : decode cL_why 22 = .ok (.iload_n 0, 1) := by decide +kernel
theorem dL_why_23 : decode cL_why 23 = .ok (.imul, 1) := by decide +kernel
theorem dL_why_24 : decode cL_why 24 = .ok (.iaload, 1) := by decide +kernel
theorem dL_why_25 : decode cL_why 25 = .ok (.iadd, 1) := by decide +kernel
theorem dL_why_26 : decode cL_why 26 = .ok (.iaload, 1) := by decide +kernel
theorem dL_why_27 : decode cL_why 27 = .ok (.iload_n 0, 1) := by decide +kernel
theorem dL_why_28 : decode cL_why 28 = .ok (.aload_n 1, 1) := by decide +kernel
theorem dL_why_29 : decode cL_why 29 = .ok (.aload_n 2, 1) := by decide +kernel
theorem dL_why_30 : decode cL_why 30 = .ok (.aload_n 3, 1) := by decide +kernel
theorem dL_why_31 : decode cL_why 31 = .ok (.invokestatic 37, 3) := by decide +kernel
theorem dL_why_34 : decode cL_why 34 = .ok (.ifCond .ge 7, 3) := by decide +kernel
theorem dL_why_37 : decode cL_why 37 = .ok (.iconst 2, 1) := by decide +kernel
theorem dL_why_38 : decode cL_why 38 = .ok (.goto 4, 3) := by decide +kernel
theorem dL_why_41 : decode cL_why 41 = .ok (.iconst 0, 1) := by decide +kernel
theorem dL_why_42 : decode cL_why 42 = .ok (.ireturn, 1) := by decide +kernel
theorem dL_turn_0 : decode cL_turn 0 = .ok (.aload_n 3, 1) := by decide +kernel
theorem dL_turn_1 : decode cL_turn 1 = .ok (.iconst 0, 1) := by decide +kernel
theorem dL_turn_2 : decode cL_turn 2 = .ok (.dup2, 1) := by decide +kernel
theorem dL_turn_3 : decode cL_turn 3 = .ok (.iaload, 1) := by decide +kernel
theorem dL_turn_4 : decode cL_turn 4 = .ok (.iconst 1, 1) := by decide +kernel
theorem dL_turn_5 : decode cL_turn 5 = .ok (.iadd, 1) := by decide +kernel
theorem dL_turn_6 : decode cL_turn 6 = .ok (.iastore, 1) := by decide +kernel
theorem dL_turn_7 : decode cL_turn 7 = .ok (.iconst 0, 1) := by decide +kernel
theorem dL_turn_8 : decode cL_turn 8 = .ok (.istore 4, 2) := by decide +kernel
theorem dL_turn_10 : decode cL_turn 10 = .ok (.iconst 0, 1) := by decide +kernel
theorem dL_turn_11 : decode cL_turn 11 = .ok (.istore 5, 2) := by decide +kernel
theorem dL_turn_13 : decode cL_turn 13 = .ok (.iload 5, 2) := by decide +kernel
theorem dL_turn_15 : decode cL_turn 15 = .ok (.aload_n 3, 1) := by decide +kernel
theorem dL_turn_16 : decode cL_turn 16 = .ok (.iconst 2, 1) := by decide +kernel
theorem dL_turn_17 : decode cL_turn 17 = .ok (.iaload, 1) := by decide +kernel
theorem dL_turn_18 : decode cL_turn 18 = .ok (.if_icmp .ge 119, 3) := by decide +kernel
theorem dL_turn_21 : decode cL_turn 21 = .ok (.aload_n 2, 1) := by decide +kernel
theorem dL_turn_22 : decode cL_turn 22 = .ok (.iconst 4, 1) := by decide +kernel
theorem dL_turn_23 : decode cL_turn 23 = .ok (.iload 5, 2) := by decide +kernel
theorem dL_turn_25 : decode cL_turn 25 = .ok (.imul, 1) := by decide +kernel
theorem dL_turn_26 : decode cL_turn 26 = .ok (.iconst 3, 1) := by decide +kernel
theorem dL_turn_27 : decode cL_turn 27 = .ok (.iadd, 1) := by decide +kernel
theorem dL_turn_28 : decode cL_turn 28 = .ok (.iaload, 1) := by decide +kernel
theorem dL_turn_29 : decode cL_turn 29 = .ok (.aload_n 3, 1) := by decide +kernel
theorem dL_turn_30 : decode cL_turn 30 = .ok (.iconst 0, 1) := by decide +kernel
theorem dL_turn_31 : decode cL_turn 31 = .ok (.iaload, 1) := by decide +kernel
theorem dL_turn_32 : decode cL_turn 32 = .ok (.if_icmp .eq 42, 3) := by decide +kernel
theorem dL_turn_35 : decode cL_turn 35 = .ok (.iconst 0, 1) := by decide +kernel
theorem dL_turn_36 : decode cL_turn 36 = .ok (.istore 6, 2) := by decide +kernel
theorem dL_turn_38 : decode cL_turn 38 = .ok (.iload 6, 2) := by decide +kernel
theorem dL_turn_40 : decode cL_turn 40 = .ok (.iconst 4, 1) := by decide +kernel
theorem dL_turn_41 : decode cL_turn 41 = .ok (.if_icmp .ge 27, 3) := by decide +kernel
theorem dL_turn_44 : decode cL_turn 44 = .ok (.aload_n 2, 1) := by decide +kernel
theorem dL_turn_45 : decode cL_turn 45 = .ok (.iconst 4, 1) := by decide +kernel
theorem dL_turn_46 : decode cL_turn 46 = .ok (.iload 4, 2) := by decide +kernel
theorem dL_turn_48 : decode cL_turn 48 = .ok (.imul, 1) := by decide +kernel
theorem dL_turn_49 : decode cL_turn 49 = .ok (.iload 6, 2) := by decide +kernel
theorem dL_turn_51 : decode cL_turn 51 = .ok (.iadd, 1) := by decide +kernel
theorem dL_turn_52 : decode cL_turn 52 = .ok (.aload_n 2, 1) := by decide +kernel
theorem dL_turn_53 : decode cL_turn 53 = .ok (.iconst 4, 1) := by decide +kernel
theorem dL_turn_54 : decode cL_turn 54 = .ok (.iload 5, 2) := by decide +kernel
theorem dL_turn_56 : decode cL_turn 56 = .ok (.imul, 1) := by decide +kernel
theorem dL_turn_57 : decode cL_turn 57 = .ok (.iload 6, 2) := by decide +kernel
theorem dL_turn_59 : decode cL_turn 59 = .ok (.iadd, 1) := by decide +kernel
theorem dL_turn_60 : decode cL_turn 60 = .ok (.iaload, 1) := by decide +kernel
theorem dL_turn_61 : decode cL_turn 61 = .ok (.iastore, 1) := by decide +kernel
theorem dL_turn_62 : decode cL_turn 62 = .ok (.iinc 6 1, 3) := by decide +kernel
theorem dL_turn_65 : decode cL_turn 65 = .ok (.goto (-27), 3) := by decide +kernel
theorem dL_turn_68 : decode cL_turn 68 = .ok (.iinc 4 1, 3) := by decide +kernel
theorem dL_turn_71 : decode cL_turn 71 = .ok (.goto 60, 3) := by decide +kernel
theorem dL_turn_74 : decode cL_turn 74 = .ok (.bipush 8, 2) := by decide +kernel
theorem dL_turn_76 : decode cL_turn 76 = .ok (.aload_n 2, 1) := by decide +kernel
theorem dL_turn_77 : decode cL_turn 77 = .ok (.iconst 4, 1) := by decide +kernel
theorem dL_turn_78 : decode cL_turn 78 = .ok (.iload 5, 2) := by decide +kernel
theorem dL_turn_80 : decode cL_turn 80 = .ok (.imul, 1) := by decide +kernel
theorem dL_turn_81 : decode cL_turn 81 = .ok (.iconst 1, 1) := by decide +kernel
theorem dL_turn_82 : decode cL_turn 82 = .ok (.iadd, 1) := by decide +kernel
theorem dL_turn_83 : decode cL_turn 83 = .ok (.iaload, 1) := by decide +kernel
theorem dL_turn_84 : decode cL_turn 84 = .ok (.imul, 1) := by decide +kernel
theorem dL_turn_85 : decode cL_turn 85 = .ok (.istore 6, 2) := by decide +kernel
theorem dL_turn_87 : decode cL_turn 87 = .ok (.aload_n 1, 1) := by decide +kernel
theorem dL_turn_88 : decode cL_turn 88 = .ok (.iload 6, 2) := by decide +kernel
theorem dL_turn_90 : decode cL_turn 90 = .ok (.iconst 4, 1) := by decide +kernel
theorem dL_turn_91 : decode cL_turn 91 = .ok (.iadd, 1) := by decide +kernel
theorem dL_turn_92 : decode cL_turn 92 = .ok (.iaload, 1) := by decide +kernel
theorem dL_turn_93 : decode cL_turn 93 = .ok (.ifCond .ne 31, 3) := by decide +kernel
theorem dL_turn_96 : decode cL_turn 96 = .ok (.aload_n 1, 1) := by decide +kernel
theorem dL_turn_97 : decode cL_turn 97 = .ok (.iload 6, 2) := by decide +kernel
theorem dL_turn_99 : decode cL_turn 99 = .ok (.iconst 3, 1) := by decide +kernel
theorem dL_turn_100 : decode cL_turn 100 = .ok (.iadd, 1) := by decide +kernel
theorem dL_turn_101 : decode cL_turn 101 = .ok (.aload_n 2, 1) := by decide +kernel
theorem dL_turn_102 : decode cL_turn 102 = .ok (.iconst 4, 1) := by decide +kernel
theorem dL_turn_103 : decode cL_turn 103 = .ok (.iload 5, 2) := by decide +kernel
theorem dL_turn_105 : decode cL_turn 105 = .ok (.imul, 1) := by decide +kernel
theorem dL_turn_106 : decode cL_turn 106 = .ok (.iconst 2, 1) := by decide +kernel
theorem dL_turn_107 : decode cL_turn 107 = .ok (.iadd, 1) := by decide +kernel
theorem dL_turn_108 : decode cL_turn 108 = .ok (.iaload, 1) := by decide +kernel
theorem dL_turn_109 : decode cL_turn 109 = .ok (.iastore, 1) := by decide +kernel
theorem dL_turn_110 : decode cL_turn 110 = .ok (.aload_n 1, 1) := by decide +kernel
theorem dL_turn_111 : decode cL_turn 111 = .ok (.iload 6, 2) := by decide +kernel
theorem dL_turn_113 : decode cL_turn 113 = .ok (.bipush 7, 2) := by decide +kernel
theorem dL_turn_115 : decode cL_turn 115 = .ok (.iadd, 1) := by decide +kernel
theorem dL_turn_116 : decode cL_turn 116 = .ok (.dup2, 1) := by decide +kernel
theorem dL_turn_117 : decode cL_turn 117 = .ok (.iaload, 1) := by decide +kernel
theorem dL_turn_118 : decode cL_turn 118 = .ok (.iconst 1, 1) := by decide +kernel
theorem dL_turn_119 : decode cL_turn 119 = .ok (.iadd, 1) := by decide +kernel
theorem dL_turn_120 : decode cL_turn 120 = .ok (.iastore, 1) := by decide +kernel
theorem dL_turn_121 : decode cL_turn 121 = .ok (.goto 10, 3) := by decide +kernel
theorem dL_turn_124 : decode cL_turn 124 = .ok (.aload_n 3, 1) := by decide +kernel
theorem dL_turn_125 : decode cL_turn 125 = .ok (.iconst 4, 1) := by decide +kernel
theorem dL_turn_126 : decode cL_turn 126 = .ok (.dup2, 1) := by decide +kernel
theorem dL_turn_127 : decode cL_turn 127 = .ok (.iaload, 1) := by decide +kernel
theorem dL_turn_128 : decode cL_turn 128 = .ok (.iconst 1, 1) := by decide +kernel
theorem dL_turn_129 : decode cL_turn 129 = .ok (.iadd, 1) := by decide +kernel
theorem dL_turn_130 : decode cL_turn 130 = .ok (.iastore, 1) := by decide +kernel
theorem dL_turn_131 : decode cL_turn 131 = .ok (.iinc 5 1, 3) := by decide +kernel
theorem dL_turn_134 : decode cL_turn 134 = .ok (.goto (-121), 3) := by decide +kernel
theorem dL_turn_137 : decode cL_turn 137 = .ok (.aload_n 3, 1) := by decide +kernel
theorem dL_turn_138 : decode cL_turn 138 = .ok (.iconst 2, 1) := by decide +kernel
theorem dL_turn_139 : decode cL_turn 139 = .ok (.iload 4, 2) := by decide +kernel
theorem dL_turn_141 : decode cL_turn 141 = .ok (.iastore, 1) := by decide +kernel
theorem dL_turn_142 : decode cL_turn 142 = .ok (.bipush 64, 2) := by decide +kernel
theorem dL_turn_144 : decode cL_turn 144 = .ok (.newarray .int, 2) := by decide +kernel
theorem dL_turn_146 : decode cL_turn 146 = .ok (.astore 5, 2) := by decide +kernel
theorem dL_turn_148 : decode cL_turn 148 = .ok (.iconst 0, 1) := by decide +kernel
theorem dL_turn_149 : decode cL_turn 149 = .ok (.istore 6, 2) := by decide +kernel
theorem dL_turn_151 : decode cL_turn 151 = .ok (.iload 6, 2) := by decide +kernel
theorem dL_turn_153 : decode cL_turn 153 = .ok (.aload_n 3, 1) := by decide +kernel
theorem dL_turn_154 : decode cL_turn 154 = .ok (.iconst 1, 1) := by decide +kernel
theorem dL_turn_155 : decode cL_turn 155 = .ok (.iaload, 1) := by decide +kernel
theorem dL_turn_156 : decode cL_turn 156 = .ok (.if_icmp .ge 213, 3) := by decide +kernel
theorem dL_turn_159 : decode cL_turn 159 = .ok (.aload_n 1, 1) := by decide +kernel
theorem dL_turn_160 : decode cL_turn 160 = .ok (.bipush 8, 2) := by decide +kernel
theorem dL_turn_162 : decode cL_turn 162 = .ok (.iload 6, 2) := by decide +kernel
theorem dL_turn_164 : decode cL_turn 164 = .ok (.imul, 1) := by decide +kernel
theorem dL_turn_165 : decode cL_turn 165 = .ok (.iconst 1, 1) := by decide +kernel
theorem dL_turn_166 : decode cL_turn 166 = .ok (.iadd, 1) := by decide +kernel
theorem dL_turn_167 : decode cL_turn 167 = .ok (.iaload, 1) := by decide +kernel
theorem dL_turn_168 : decode cL_turn 168 = .ok (.istore 7, 2) := by decide +kernel
theorem dL_turn_170 : decode cL_turn 170 = .ok (.aload_n 1, 1) := by decide +kernel
theorem dL_turn_171 : decode cL_turn 171 = .ok (.bipush 8, 2) := by decide +kernel
theorem dL_turn_173 : decode cL_turn 173 = .ok (.iload 6, 2) := by decide +kernel
theorem dL_turn_175 : decode cL_turn 175 = .ok (.imul, 1) := by decide +kernel
theorem dL_turn_176 : decode cL_turn 176 = .ok (.iconst 4, 1) := by decide +kernel
theorem dL_turn_177 : decode cL_turn 177 = .ok (.iadd, 1) := by decide +kernel
theorem dL_turn_178 : decode cL_turn 178 = .ok (.iaload, 1) := by decide +kernel
theorem dL_turn_179 : decode cL_turn 179 = .ok (.iconst 1, 1) := by decide +kernel
theorem dL_turn_180 : decode cL_turn 180 = .ok (.if_icmp .ne 52, 3) := by decide +kernel
theorem dL_turn_183 : decode cL_turn 183 = .ok (.iload 7, 2) := by decide +kernel
theorem dL_turn_185 : decode cL_turn 185 = .ok (.aload_n 1, 1) := by decide +kernel
theorem dL_turn_186 : decode cL_turn 186 = .ok (.bipush 8, 2) := by decide +kernel
theorem dL_turn_188 : decode cL_turn 188 = .ok (.iload 6, 2) := by decide +kernel
theorem dL_turn_190 : decode cL_turn 190 = .ok (.imul, 1) := by decide +kernel
theorem dL_turn_191 : decode cL_turn 191 = .ok (.iaload, 1) := by decide +kernel
theorem dL_turn_192 : decode cL_turn 192 = .ok (.ifCond .ne 7, 3) := by decide +kernel
theorem dL_turn_195 : decode cL_turn 195 = .ok (.iconst 3, 1) := by decide +kernel
theorem dL_turn_196 : decode cL_turn 196 = .ok (.goto 4, 3) := by decide +kernel
theorem dL_turn_199 : decode cL_turn 199 = .ok (.iconst 1, 1) := by decide +kernel
theorem dL_turn_200 : decode cL_turn 200 = .ok (.aload_n 0, 1) := by decide +kernel
theorem dL_turn_201 : decode cL_turn 201 = .ok (.invokestatic 21, 3) := by decide +kernel
theorem dL_turn_204 : decode cL_turn 204 = .ok (.istore 8, 2) := by decide +kernel
theorem dL_turn_206 : decode cL_turn 206 = .ok (.iload 8, 2) := by decide +kernel
theorem dL_turn_208 : decode cL_turn 208 = .ok (.ifCond .lt 24, 3) := by decide +kernel
theorem dL_turn_211 : decode cL_turn 211 = .ok (.iload 8, 2) := by decide +kernel
theorem dL_turn_213 : decode cL_turn 213 = .ok (.aload_n 1, 1) := by decide +kernel
theorem dL_turn_214 : decode cL_turn 214 = .ok (.aload_n 3, 1) := by decide +kernel
theorem dL_turn_215 : decode cL_turn 215 = .ok (.invokestatic 25, 3) := by decide +kernel
theorem dL_turn_218 : decode cL_turn 218 = .ok (.ifCond .ge 14, 3) := by decide +kernel
theorem dL_turn_221 : decode cL_turn 221 = .ok (.aload_n 1, 1) := by decide +kernel
theorem dL_turn_222 : decode cL_turn 222 = .ok (.bipush 8, 2) := by decide +kernel
theorem dL_turn_224 : decode cL_turn 224 = .ok (.iload 6, 2) := by decide +kernel
theorem dL_turn_226 : decode cL_turn 226 = .ok (.imul, 1) := by decide +kernel
theorem dL_turn_227 : decode cL_turn 227 = .ok (.iconst 1, 1) := by decide +kernel
theorem dL_turn_228 : decode cL_turn 228 = .ok (.iadd, 1) := by decide +kernel
theorem dL_turn_229 : decode cL_turn 229 = .ok (.iload 8, 2) := by decide +kernel
theorem dL_turn_231 : decode cL_turn 231 = .ok (.iastore, 1) := by decide +kernel
theorem dL_turn_232 : decode cL_turn 232 = .ok (.aload_n 1, 1) := by decide +kernel
theorem dL_turn_233 : decode cL_turn 233 = .ok (.bipush 8, 2) := by decide +kernel
theorem dL_turn_235 : decode cL_turn 235 = .ok (.iload 6, 2) := by decide +kernel
theorem dL_turn_237 : decode cL_turn 237 = .ok (.imul, 1) := by decide +kernel
theorem dL_turn_238 : decode cL_turn 238 = .ok (.iconst 4, 1) := by decide +kernel
theorem dL_turn_239 : decode cL_turn 239 = .ok (.iadd, 1) := by decide +kernel
theorem dL_turn_240 : decode cL_turn 240 = .ok (.iaload, 1) := by decide +kernel
theorem dL_turn_241 : decode cL_turn 241 = .ok (.ifCond .ne 122, 3) := by decide +kernel
theorem dL_turn_244 : decode cL_turn 244 = .ok (.iload 7, 2) := by decide +kernel
theorem dL_turn_246 : decode cL_turn 246 = .ok (.aload_n 1, 1) := by decide +kernel
theorem dL_turn_247 : decode cL_turn 247 = .ok (.bipush 8, 2) := by decide +kernel
theorem dL_turn_249 : decode cL_turn 249 = .ok (.iload 6, 2) := by decide +kernel
theorem dL_turn_251 : decode cL_turn 251 = .ok (.imul, 1) := by decide +kernel
theorem dL_turn_252 : decode cL_turn 252 = .ok (.iconst 3, 1) := by decide +kernel
theorem dL_turn_253 : decode cL_turn 253 = .ok (.iadd, 1) := by decide +kernel
theorem dL_turn_254 : decode cL_turn 254 = .ok (.iaload, 1) := by decide +kernel
theorem dL_turn_255 : decode cL_turn 255 = .ok (.if_icmp .ne 6, 3) := by decide +kernel
theorem dL_turn_258 : decode cL_turn 258 = .ok (.goto 105, 3) := by decide +kernel
theorem dL_turn_261 : decode cL_turn 261 = .ok (.aload_n 1, 1) := by decide +kernel
theorem dL_turn_262 : decode cL_turn 262 = .ok (.bipush 8, 2) := by decide +kernel
theorem dL_turn_264 : decode cL_turn 264 = .ok (.iload 6, 2) := by decide +kernel
theorem dL_turn_266 : decode cL_turn 266 = .ok (.imul, 1) := by decide +kernel
theorem dL_turn_267 : decode cL_turn 267 = .ok (.iconst 3, 1) := by decide +kernel
theorem dL_turn_268 : decode cL_turn 268 = .ok (.iadd, 1) := by decide +kernel
theorem dL_turn_269 : decode cL_turn 269 = .ok (.iaload, 1) := by decide +kernel
theorem dL_turn_270 : decode cL_turn 270 = .ok (.iload 6, 2) := by decide +kernel
theorem dL_turn_272 : decode cL_turn 272 = .ok (.aload 5, 2) := by decide +kernel
theorem dL_turn_274 : decode cL_turn 274 = .ok (.aload_n 0, 1) := by decide +kernel
theorem dL_turn_275 : decode cL_turn 275 = .ok (.aload_n 1, 1) := by decide +kernel
theorem dL_turn_276 : decode cL_turn 276 = .ok (.aload_n 3, 1) := by decide +kernel
theorem dL_turn_277 : decode cL_turn 277 = .ok (.invokestatic 33, 3) := by decide +kernel
theorem dL_turn_280 : decode cL_turn 280 = .ok (.iconst 0, 1) := by decide +kernel
theorem dL_turn_281 : decode cL_turn 281 = .ok (.istore 8, 2) := by decide +kernel
theorem dL_turn_283 : decode cL_turn 283 = .ok (.iload 8, 2) := by decide +kernel
theorem dL_turn_285 : decode cL_turn 285 = .ok (.iconst 4, 1) := by decide +kernel
theorem dL_turn_286 : decode cL_turn 286 = .ok (.if_icmp .ge 77, 3) := by decide +kernel
theorem dL_turn_289 : decode cL_turn 289 = .ok (.iload 7, 2) := by decide +kernel
theorem dL_turn_291 : decode cL_turn 291 = .ok (.iload 8, 2) := by decide +kernel
theorem dL_turn_293 : decode cL_turn 293 = .ok (.aload_n 0, 1) := by decide +kernel
theorem dL_turn_294 : decode cL_turn 294 = .ok (.invokestatic 21, 3) := by decide +kernel
theorem dL_turn_297 : decode cL_turn 297 = .ok (.istore 9, 2) := by decide +kernel
theorem dL_turn_299 : decode cL_turn 299 = .ok (.iload 9, 2) := by decide +kernel
theorem dL_turn_301 : decode cL_turn 301 = .ok (.ifCond .lt 56, 3) := by decide +kernel
theorem dL_turn_304 : decode cL_turn 304 = .ok (.aload 5, 2) := by decide +kernel
theorem dL_turn_306 : decode cL_turn 306 = .ok (.iload 7, 2) := by decide +kernel
theorem dL_turn_308 : decode cL_turn 308 = .ok (.iaload, 1) := by decide +kernel
theorem dL_turn_309 : decode cL_turn 309 = .ok (.sipush 999, 3) := by decide +kernel
theorem dL_turn_312 : decode cL_turn 312 = .ok (.if_icmp .eq 45, 3) := by decide +kernel
theorem dL_turn_315 : decode cL_turn 315 = .ok (.aload 5, 2) := by decide +kernel
theorem dL_turn_317 : decode cL_turn 317 = .ok (.iload 9, 2) := by decide +kernel
theorem dL_turn_319 : decode cL_turn 319 = .ok (.iaload, 1) := by decide +kernel
theorem dL_turn_320 : decode cL_turn 320 = .ok (.aload 5, 2) := by decide +kernel
theorem dL_turn_322 : decode cL_turn 322 = .ok (.iload 7, 2) := by decide +kernel
theorem dL_turn_324 : decode cL_turn 324 = .ok (.iaload, 1) := by decide +kernel
theorem dL_turn_325 : decode cL_turn 325 = .ok (.iconst 1, 1) := by decide +kernel
theorem dL_turn_326 : decode cL_turn 326 = .ok (.isub, 1) := by decide +kernel
theorem dL_turn_327 : decode cL_turn 327 = .ok (.if_icmp .ne 30, 3) := by decide +kernel
theorem dL_turn_330 : decode cL_turn 330 = .ok (.iload 9, 2) := by decide +kernel
theorem dL_turn_332 : decode cL_turn 332 = .ok (.aload_n 1, 1) := by decide +kernel
theorem dL_turn_333 : decode cL_turn 333 = .ok (.aload_n 3, 1) := by decide +kernel
theorem dL_turn_334 : decode cL_turn 334 = .ok (.invokestatic 25, 3) := by decide +kernel
theorem dL_turn_337 : decode cL_turn 337 = .ok (.ifCond .lt 6, 3) := by decide +kernel
theorem dL_turn_340 : decode cL_turn 340 = .ok (.goto 17, 3) := by decide +kernel
theorem dL_turn_343 : decode cL_turn 343 = .ok (.aload_n 1, 1) := by decide +kernel
theorem dL_turn_344 : decode cL_turn 344 = .ok (.bipush 8, 2) := by decide +kernel
theorem dL_turn_346 : decode cL_turn 346 = .ok (.iload 6, 2) := by decide +kernel
theorem dL_turn_348 : decode cL_turn 348 = .ok (.imul, 1) := by decide +kernel
theorem dL_turn_349 : decode cL_turn 349 = .ok (.iconst 1, 1) := by decide +kernel
theorem dL_turn_350 : decode cL_turn 350 = .ok (.iadd, 1) := by decide +kernel
theorem dL_turn_351 : decode cL_turn 351 = .ok (.iload 9, 2) := by decide +kernel
theorem dL_turn_353 : decode cL_turn 353 = .ok (.iastore, 1) := by decide +kernel
theorem dL_turn_354 : decode cL_turn 354 = .ok (.goto 9, 3) := by decide +kernel
theorem dL_turn_357 : decode cL_turn 357 = .ok (.iinc 8 1, 3) := by decide +kernel
theorem dL_turn_360 : decode cL_turn 360 = .ok (.goto (-77), 3) := by decide +kernel
theorem dL_turn_363 : decode cL_turn 363 = .ok (.iinc 6 1, 3) := by decide +kernel
theorem dL_turn_366 : decode cL_turn 366 = .ok (.goto (-215), 3) := by decide +kernel
theorem dL_turn_369 : decode cL_turn 369 = .ok (.iconst 0, 1) := by decide +kernel
theorem dL_turn_370 : decode cL_turn 370 = .ok (.istore 6, 2) := by decide +kernel
theorem dL_turn_372 : decode cL_turn 372 = .ok (.iload 6, 2) := by decide +kernel
theorem dL_turn_374 : decode cL_turn 374 = .ok (.aload_n 3, 1) := by decide +kernel
theorem dL_turn_375 : decode cL_turn 375 = .ok (.iconst 1, 1) := by decide +kernel
theorem dL_turn_376 : decode cL_turn 376 = .ok (.iaload, 1) := by decide +kernel
theorem dL_turn_377 : decode cL_turn 377 = .ok (.if_icmp .ge 193, 3) := by decide +kernel
theorem dL_turn_380 : decode cL_turn 380 = .ok (.iconst 0, 1) := by decide +kernel
theorem dL_turn_381 : decode cL_turn 381 = .ok (.istore 7, 2) := by decide +kernel
theorem dL_turn_383 : decode cL_turn 383 = .ok (.iconst 0, 1) := by decide +kernel
theorem dL_turn_384 : decode cL_turn 384 = .ok (.istore 8, 2) := by decide +kernel
theorem dL_turn_386 : decode cL_turn 386 = .ok (.iload 8, 2) := by decide +kernel
theorem dL_turn_388 : decode cL_turn 388 = .ok (.aload_n 3, 1) := by decide +kernel
theorem dL_turn_389 : decode cL_turn 389 = .ok (.iconst 1, 1) := by decide +kernel
theorem dL_turn_390 : decode cL_turn 390 = .ok (.iaload, 1) := by decide +kernel
theorem dL_turn_391 : decode cL_turn 391 = .ok (.if_icmp .ge 118, 3) := by decide +kernel
theorem dL_turn_394 : decode cL_turn 394 = .ok (.aload_n 1, 1) := by decide +kernel
theorem dL_turn_395 : decode cL_turn 395 = .ok (.bipush 8, 2) := by decide +kernel
theorem dL_turn_397 : decode cL_turn 397 = .ok (.iload 6, 2) := by decide +kernel
theorem dL_turn_399 : decode cL_turn 399 = .ok (.imul, 1) := by decide +kernel
theorem dL_turn_400 : decode cL_turn 400 = .ok (.iconst 1, 1) := by decide +kernel
theorem dL_turn_401 : decode cL_turn 401 = .ok (.iadd, 1) := by decide +kernel
theorem dL_turn_402 : decode cL_turn 402 = .ok (.iaload, 1) := by decide +kernel
theorem dL_turn_403 : decode cL_turn 403 = .ok (.istore 9, 2) := by decide +kernel
theorem dL_turn_405 : decode cL_turn 405 = .ok (.aload_n 1, 1) := by decide +kernel
theorem dL_turn_406 : decode cL_turn 406 = .ok (.bipush 8, 2) := by decide +kernel
theorem dL_turn_408 : decode cL_turn 408 = .ok (.iload 8, 2) := by decide +kernel
theorem dL_turn_410 : decode cL_turn 410 = .ok (.imul, 1) := by decide +kernel
theorem dL_turn_411 : decode cL_turn 411 = .ok (.iconst 1, 1) := by decide +kernel
theorem dL_turn_412 : decode cL_turn 412 = .ok (.iadd, 1) := by decide +kernel
theorem dL_turn_413 : decode cL_turn 413 = .ok (.iaload, 1) := by decide +kernel
theorem dL_turn_414 : decode cL_turn 414 = .ok (.istore 10, 2) := by decide +kernel
theorem dL_turn_416 : decode cL_turn 416 = .ok (.aload_n 1, 1) := by decide +kernel
theorem dL_turn_417 : decode cL_turn 417 = .ok (.bipush 8, 2) := by decide +kernel
theorem dL_turn_419 : decode cL_turn 419 = .ok (.iload 8, 2) := by decide +kernel
theorem dL_turn_421 : decode cL_turn 421 = .ok (.imul, 1) := by decide +kernel
theorem dL_turn_422 : decode cL_turn 422 = .ok (.iconst 4, 1) := by decide +kernel
theorem dL_turn_423 : decode cL_turn 423 = .ok (.iadd, 1) := by decide +kernel
theorem dL_turn_424 : decode cL_turn 424 = .ok (.iaload, 1) := by decide +kernel
theorem dL_turn_425 : decode cL_turn 425 = .ok (.iconst 2, 1) := by decide +kernel
theorem dL_turn_426 : decode cL_turn 426 = .ok (.if_icmp .eq 77, 3) := by decide +kernel
theorem dL_turn_429 : decode cL_turn 429 = .ok (.aload_n 1, 1) := by decide +kernel
theorem dL_turn_430 : decode cL_turn 430 = .ok (.bipush 8, 2) := by decide +kernel
theorem dL_turn_432 : decode cL_turn 432 = .ok (.iload 8, 2) := by decide +kernel
theorem dL_turn_434 : decode cL_turn 434 = .ok (.imul, 1) := by decide +kernel
theorem dL_turn_435 : decode cL_turn 435 = .ok (.iaload, 1) := by decide +kernel
theorem dL_turn_436 : decode cL_turn 436 = .ok (.aload_n 1, 1) := by decide +kernel
theorem dL_turn_437 : decode cL_turn 437 = .ok (.bipush 8, 2) := by decide +kernel
theorem dL_turn_439 : decode cL_turn 439 = .ok (.iload 6, 2) := by decide +kernel
theorem dL_turn_441 : decode cL_turn 441 = .ok (.imul, 1) := by decide +kernel
theorem dL_turn_442 : decode cL_turn 442 = .ok (.iaload, 1) := by decide +kernel
theorem dL_turn_443 : decode cL_turn 443 = .ok (.if_icmp .eq 60, 3) := by decide +kernel
theorem dL_turn_446 : decode cL_turn 446 = .ok (.iload 9, 2) := by decide +kernel
theorem dL_turn_448 : decode cL_turn 448 = .ok (.bipush 8, 2) := by decide +kernel
theorem dL_turn_450 : decode cL_turn 450 = .ok (.irem, 1) := by decide +kernel
theorem dL_turn_451 : decode cL_turn 451 = .ok (.iload 10, 2) := by decide +kernel
theorem dL_turn_453 : decode cL_turn 453 = .ok (.bipush 8, 2) := by decide +kernel
theorem dL_turn_455 : decode cL_turn 455 = .ok (.irem, 1) := by decide +kernel
theorem dL_turn_456 : decode cL_turn 456 = .ok (.isub, 1) := by decide +kernel
theorem dL_turn_457 : decode cL_turn 457 = .ok (.invokestatic 14, 3) := by decide +kernel
theorem dL_turn_460 : decode cL_turn 460 = .ok (.iload 9, 2) := by decide +kernel
theorem dL_turn_462 : decode cL_turn 462 = .ok (.bipush 8, 2) := by decide +kernel
theorem dL_turn_464 : decode cL_turn 464 = .ok (.idiv, 1) := by decide +kernel
theorem dL_turn_465 : decode cL_turn 465 = .ok (.iload 10, 2) := by decide +kernel
theorem dL_turn_467 : decode cL_turn 467 = .ok (.bipush 8, 2) := by decide +kernel
theorem dL_turn_469 : decode cL_turn 469 = .ok (.idiv, 1) := by decide +kernel
theorem dL_turn_470 : decode cL_turn 470 = .ok (.isub, 1) := by decide +kernel
theorem dL_turn_471 : decode cL_turn 471 = .ok (.invokestatic 14, 3) := by decide +kernel
theorem dL_turn_474 : decode cL_turn 474 = .ok (.iadd, 1) := by decide +kernel
theorem dL_turn_475 : decode cL_turn 475 = .ok (.iconst 1, 1) := by decide +kernel
theorem dL_turn_476 : decode cL_turn 476 = .ok (.if_icmp .eq 6, 3) := by decide +kernel
theorem dL_turn_479 : decode cL_turn 479 = .ok (.goto 24, 3) := by decide +kernel
theorem dL_turn_482 : decode cL_turn 482 = .ok (.iload 7, 2) := by decide +kernel
theorem dL_turn_484 : decode cL_turn 484 = .ok (.aload_n 0, 1) := by decide +kernel
theorem dL_turn_485 : decode cL_turn 485 = .ok (.iload 10, 2) := by decide +kernel
theorem dL_turn_487 : decode cL_turn 487 = .ok (.iaload, 1) := by decide +kernel
theorem dL_turn_488 : decode cL_turn 488 = .ok (.aload_n 0, 1) := by decide +kernel
theorem dL_turn_489 : decode cL_turn 489 = .ok (.iload 9, 2) := by decide +kernel
theorem dL_turn_491 : decode cL_turn 491 = .ok (.iaload, 1) := by decide +kernel
theorem dL_turn_492 : decode cL_turn 492 = .ok (.if_icmp .le 7, 3) := by decide +kernel
theorem dL_turn_495 : decode cL_turn 495 = .ok (.iconst 2, 1) := by decide +kernel
theorem dL_turn_496 : decode cL_turn 496 = .ok (.goto 4, 3) := by decide +kernel
theorem dL_turn_499 : decode cL_turn 499 = .ok (.iconst 1, 1) := by decide +kernel
theorem dL_turn_500 : decode cL_turn 500 = .ok (.iadd, 1) := by decide +kernel
theorem dL_turn_501 : decode cL_turn 501 = .ok (.istore 7, 2) := by decide +kernel
theorem dL_turn_503 : decode cL_turn 503 = .ok (.iinc 8 1, 3) := by decide +kernel
theorem dL_turn_506 : decode cL_turn 506 = .ok (.goto (-120), 3) := by decide +kernel
theorem dL_turn_509 : decode cL_turn 509 = .ok (.aload_n 1, 1) := by decide +kernel
theorem dL_turn_510 : decode cL_turn 510 = .ok (.bipush 8, 2) := by decide +kernel
theorem dL_turn_512 : decode cL_turn 512 = .ok (.iload 6, 2) := by decide +kernel
theorem dL_turn_514 : decode cL_turn 514 = .ok (.imul, 1) := by decide +kernel
theorem dL_turn_515 : decode cL_turn 515 = .ok (.bipush 6, 2) := by decide +kernel
theorem dL_turn_517 : decode cL_turn 517 = .ok (.iadd, 1) := by decide +kernel
theorem dL_turn_518 : decode cL_turn 518 = .ok (.aload_n 1, 1) := by decide +kernel
theorem dL_turn_519 : decode cL_turn 519 = .ok (.bipush 8, 2) := by decide +kernel
theorem dL_turn_521 : decode cL_turn 521 = .ok (.iload 6, 2) := by decide +kernel
theorem dL_turn_523 : decode cL_turn 523 = .ok (.imul, 1) := by decide +kernel
theorem dL_turn_524 : decode cL_turn 524 = .ok (.iconst 4, 1) := by decide +kernel
theorem dL_turn_525 : decode cL_turn 525 = .ok (.iadd, 1) := by decide +kernel
theorem dL_turn_526 : decode cL_turn 526 = .ok (.iaload, 1) := by decide +kernel
theorem dL_turn_527 : decode cL_turn 527 = .ok (.iconst 2, 1) := by decide +kernel
theorem dL_turn_528 : decode cL_turn 528 = .ok (.if_icmp .ne 7, 3) := by decide +kernel
theorem dL_turn_531 : decode cL_turn 531 = .ok (.iconst 0, 1) := by decide +kernel
theorem dL_turn_532 : decode cL_turn 532 = .ok (.goto 31, 3) := by decide +kernel
theorem dL_turn_535 : decode cL_turn 535 = .ok (.iload 7, 2) := by decide +kernel
theorem dL_turn_537 : decode cL_turn 537 = .ok (.aload_n 1, 1) := by decide +kernel

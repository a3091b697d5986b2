theorem dX4_init_0 : decode cX4_init 0 = .ok (.aload_n 0, 1) := by decide +kernel
theorem dX4_init_1 : decode cX4_init 1 = .ok (.invokespecial 3, 3) := by decide +kernel
theorem dX4_init_4 : decode cX4_init 4 = .ok (.aload_n 0, 1) := by decide +kernel
theorem dX4_init_5 : decode cX4_init 5 = .ok (.bipush 96, 2) := by decide +kernel
theorem dX4_init_7 : decode cX4_init 7 = .ok (.newarray .int, 2) := by decide +kernel
theorem dX4_init_9 : decode cX4_init 9 = .ok (.putfield 9, 3) := by decide +kernel
theorem dX4_init_12 : decode cX4_init 12 = .ok (.aload_n 0, 1) := by decide +kernel
theorem dX4_init_13 : decode cX4_init 13 = .ok (.bipush 96, 2) := by decide +kernel
theorem dX4_init_15 : decode cX4_init 15 = .ok (.newarray .int, 2) := by decide +kernel
theorem dX4_init_17 : decode cX4_init 17 = .ok (.putfield 15, 3) := by decide +kernel
theorem dX4_init_20 : decode cX4_init 20 = .ok (.aload_n 0, 1) := by decide +kernel
theorem dX4_init_21 : decode cX4_init 21 = .ok (.bipush 96, 2) := by decide +kernel
theorem dX4_init_23 : decode cX4_init 23 = .ok (.newarray .int, 2) := by decide +kernel
theorem dX4_init_25 : decode cX4_init 25 = .ok (.putfield 18, 3) := by decide +kernel
theorem dX4_init_28 : decode cX4_init 28 = .ok (.return_, 1) := by decide +kernel
theorem dX0_init_0 : decode cX0_init 0 = .ok (.aload_n 0, 1) := by decide +kernel
theorem dX0_init_1 : decode cX0_init 1 = .ok (.invokespecial 3, 3) := by decide +kernel
theorem dX0_init_4 : decode cX0_init 4 = .ok (.aload_n 0, 1) := by decide +kernel
theorem dX0_init_5 : decode cX0_init 5 = .ok (.new 9, 3) := by decide +kernel
theorem dX0_init_8 : decode cX0_init 8 = .ok (.dup, 1) := by decide +kernel
theorem dX0_init_9 : decode cX0_init 9 = .ok (.invokespecial 11, 3) := by decide +kernel
theorem dX0_init_12 : decode cX0_init 12 = .ok (.putfield 12, 3) := by decide +kernel
theorem dX0_init_15 : decode cX0_init 15 = .ok (.aload_n 0, 1) := by decide +kernel
theorem dX0_init_16 : decode cX0_init 16 = .ok (.bipush 96, 2) := by decide +kernel
theorem dX0_init_18 : decode cX0_init 18 = .ok (.newarray .int, 2) := by decide +kernel
theorem dX0_init_20 : decode cX0_init 20 = .ok (.putfield 18, 3) := by decide +kernel
theorem dX0_init_23 : decode cX0_init 23 = .ok (.return_, 1) := by decide +kernel
theorem dJ7_fill_53178_0 : decode cJ7_fill_53178 0 = .ok (.iconst 0, 1) := by decide +kernel
theorem dJ7_fill_53178_1 : decode cJ7_fill_53178 1 = .ok (.istore_n 2, 1) := by decide +kernel
theorem dJ7_fill_53178_2 : decode cJ7_fill_53178 2 = .ok (.aload_n 0, 1) := by decide +kernel
theorem dJ7_fill_53178_3 : decode cJ7_fill_53178 3 = .ok (.arraylength, 1) := by decide +kernel
theorem dJ7_fill_53178_4 : decode cJ7_fill_53178 4 = .ok (.istore_n 3, 1) := by decide +kernel
theorem dJ7_fill_53178_5 : decode cJ7_fill_53178 5 = .ok (.iload_n 2, 1) := by decide +kernel
theorem dJ7_fill_53178_6 : decode cJ7_fill_53178 6 = .ok (.iload_n 3, 1) := by decide +kernel
theorem dJ7_fill_53178_7 : decode cJ7_fill_53178 7 = .ok (.if_icmp .ge 13, 3) := by decide +kernel
theorem dJ7_fill_53178_10 : decode cJ7_fill_53178 10 = .ok (.aload_n 0, 1) := by decide +kernel
theorem dJ7_fill_53178_11 : decode cJ7_fill_53178 11 = .ok (.iload_n 2, 1) := by decide +kernel
theorem dJ7_fill_53178_12 : decode cJ7_fill_53178 12 = .ok (.iload_n 1, 1) := by decide +kernel
theorem dJ7_fill_53178_13 : decode cJ7_fill_53178 13 = .ok (.iastore, 1) := by decide +kernel
theorem dJ7_fill_53178_14 : decode cJ7_fill_53178 14 = .ok (.iinc 2 1, 3) := by decide +kernel
theorem dJ7_fill_53178_17 : decode cJ7_fill_53178 17 = .ok (.goto (-12), 3) := by decide +kernel
theorem dJ7_fill_53178_20 : decode cJ7_fill_53178 20 = .ok (.return_, 1) := by decide +kernel
theorem dX9_neighbour_0 : decode cX9_neighbour 0 = .ok (.iload_n 1, 1) := by decide +kernel
theorem dX9_neighbour_1 : decode cX9_neighbour 1 = .ok (.tableswitch 74 0 2 #[27, 42, 59], 27) := by decide +kernel
theorem dX9_neighbour_28 : decode cX9_neighbour 28 = .ok (.iload_n 0, 1) := by decide +kernel
theorem dX9_neighbour_29 : decode cX9_neighbour 29 = .ok (.bipush 12, 2) := by decide +kernel
theorem dX9_neighbour_31 : decode cX9_neighbour 31 = .ok (.if_icmp .lt 10, 3) := by decide +kernel
theorem dX9_neighbour_34 : decode cX9_neighbour 34 = .ok (.iload_n 0, 1) := by decide +kernel
theorem dX9_neighbour_35 : decode cX9_neighbour 35 = .ok (.bipush 12, 2) := by decide +kernel
theorem dX9_neighbour_37 : decode cX9_neighbour 37 = .ok (.isub, 1) := by decide +kernel
theorem dX9_neighbour_38 : decode cX9_neighbour 38 = .ok (.goto 4, 3) := by decide +kernel
theorem dX9_neighbour_41 : decode cX9_neighbour 41 = .ok (.iconst (-1), 1) := by decide +kernel
theorem dX9_neighbour_42 : decode cX9_neighbour 42 = .ok (.ireturn, 1) := by decide +kernel
theorem dX9_neighbour_43 : decode cX9_neighbour 43 = .ok (.iload_n 0, 1) := by decide +kernel
theorem dX9_neighbour_44 : decode cX9_neighbour 44 = .ok (.bipush 12, 2) := by decide +kernel
theorem dX9_neighbour_46 : decode cX9_neighbour 46 = .ok (.irem, 1) := by decide +kernel
theorem dX9_neighbour_47 : decode cX9_neighbour 47 = .ok (.bipush 11, 2) := by decide +kernel
theorem dX9_neighbour_49 : decode cX9_neighbour 49 = .ok (.if_icmp .ge 9, 3) := by decide +kernel
theorem dX9_neighbour_52 : decode cX9_neighbour 52 = .ok (.iload_n 0, 1) := by decide +kernel
theorem dX9_neighbour_53 : decode cX9_neighbour 53 = .ok (.iconst 1, 1) := by decide +kernel
theorem dX9_neighbour_54 : decode cX9_neighbour 54 = .ok (.iadd, 1) := by decide +kernel
theorem dX9_neighbour_55 : decode cX9_neighbour 55 = .ok (.goto 4, 3) := by decide +kernel
theorem dX9_neighbour_58 : decode cX9_neighbour 58 = .ok (.iconst (-1), 1) := by decide +kernel
theorem dX9_neighbour_59 : decode cX9_neighbour 59 = .ok (.ireturn, 1) := by decide +kernel
theorem dX9_neighbour_60 : decode cX9_neighbour 60 = .ok (.iload_n 0, 1) := by decide +kernel
theorem dX9_neighbour_61 : decode cX9_neighbour 61 = .ok (.bipush 84, 2) := by decide +kernel
theorem dX9_neighbour_63 : decode cX9_neighbour 63 = .ok (.if_icmp .ge 10, 3) := by decide +kernel
theorem dX9_neighbour_66 : decode cX9_neighbour 66 = .ok (.iload_n 0, 1) := by decide +kernel
theorem dX9_neighbour_67 : decode cX9_neighbour 67 = .ok (.bipush 12, 2) := by decide +kernel
theorem dX9_neighbour_69 : decode cX9_neighbour 69 = .ok (.iadd, 1) := by decide +kernel
theorem dX9_neighbour_70 : decode cX9_neighbour 70 = .ok (.goto 4, 3) := by decide +kernel
theorem dX9_neighbour_73 : decode cX9_neighbour 73 = .ok (.iconst (-1), 1) := by decide +kernel
theorem dX9_neighbour_74 : decode cX9_neighbour 74 = .ok (.ireturn, 1) := by decide +kernel
theorem dX9_neighbour_75 : decode cX9_neighbour 75 = .ok (.iload_n 0, 1) := by decide +kernel
theorem dX9_neighbour_76 : decode cX9_neighbour 76 = .ok (.bipush 12, 2) := by decide +kernel
theorem dX9_neighbour_78 : decode cX9_neighbour 78 = .ok (.irem, 1) := by decide +kernel
theorem dX9_neighbour_79 : decode cX9_neighbour 79 = .ok (.ifCond .le 9, 3) := by decide +kernel
theorem dX9_neighbour_82 : decode cX9_neighbour 82 = .ok (.iload_n 0, 1) := by decide +kernel
theorem dX9_neighbour_83 : decode cX9_neighbour 83 = .ok (.iconst 1, 1) := by decide +kernel
theorem dX9_neighbour_84 : decode cX9_neighbour 84 = .ok (.isub, 1) := by decide +kernel
theorem dX9_neighbour_85 : decode cX9_neighbour 85 = .ok (.goto 4, 3) := by decide +kernel
theorem dX9_neighbour_88 : decode cX9_neighbour 88 = .ok (.iconst (-1), 1) := by decide +kernel
theorem dX9_neighbour_89 : decode cX9_neighbour 89 = .ok (.ireturn, 1) := by decide +kernel
theorem dX4_isOpen_0 : decode cX4_isOpen 0 = .ok (.aload_n 0, 1) := by decide +kernel
theorem dX4_isOpen_1 : decode cX4_isOpen 1 = .ok (.getfield 9, 3) := by decide +kernel
theorem dX4_isOpen_4 : decode cX4_isOpen 4 = .ok (.iload_n 1, 1) := by decide +kernel
theorem dX4_isOpen_5 : decode cX4_isOpen 5 = .ok (.iaload, 1) := by decide +kernel
theorem dX4_isOpen_6 : decode cX4_isOpen 6 = .ok (.iconst (-1), 1) := by decide +kernel
theorem dX4_isOpen_7 : decode cX4_isOpen 7 = .ok (.if_icmp .ne 16, 3) := by decide +kernel
theorem dX4_isOpen_10 : decode cX4_isOpen 10 = .ok (.aload_n 0, 1) := by decide +kernel
theorem dX4_isOpen_11 : decode cX4_isOpen 11 = .ok (.getfield 18, 3) := by decide +kernel
theorem dX4_isOpen_14 : decode cX4_isOpen 14 = .ok (.iload_n 1, 1) := by decide +kernel
theorem dX4_isOpen_15 : decode cX4_isOpen 15 = .ok (.iaload, 1) := by decide +kernel
theorem dX4_isOpen_16 : decode cX4_isOpen 16 = .ok (.ifCond .ne 7, 3) := by decide +kernel
theorem dX4_isOpen_19 : decode cX4_isOpen 19 = .ok (.iconst 1, 1) := by decide +kernel
theorem dX4_isOpen_20 : decode cX4_isOpen 20 = .ok (.goto 4, 3) := by decide +kernel
theorem dX4_isOpen_23 : decode cX4_isOpen 23 = .ok (.iconst 0, 1) := by decide +kernel
theorem dX4_isOpen_24 : decode cX4_isOpen 24 = .ok (.ireturn, 1) := by decide +kernel
theorem dX5_canStep_0 : decode cX5_canStep 0 = .ok (.aload_n 0, 1) := by decide +kernel
theorem dX5_canStep_1 : decode cX5_canStep 1 = .ok (.getfield 9, 3) := by decide +kernel
theorem dX5_canStep_4 : decode cX5_canStep 4 = .ok (.iload_n 2, 1) := by decide +kernel
theorem dX5_canStep_5 : decode cX5_canStep 5 = .ok (.iaload, 1) := by decide +kernel
theorem dX5_canStep_6 : decode cX5_canStep 6 = .ok (.aload_n 0, 1) := by decide +kernel
theorem dX5_canStep_7 : decode cX5_canStep 7 = .ok (.getfield 9, 3) := by decide +kernel
theorem dX5_canStep_10 : decode cX5_canStep 10 = .ok (.iload_n 1, 1) := by decide +kernel
theorem dX5_canStep_11 : decode cX5_canStep 11 = .ok (.iaload, 1) := by decide +kernel
theorem dX5_canStep_12 : decode cX5_canStep 12 = .ok (.isub, 1) := by decide +kernel
theorem dX5_canStep_13 : decode cX5_canStep 13 = .ok (.istore_n 3, 1) := by decide +kernel
theorem dX5_canStep_14 : decode cX5_canStep 14 = .ok (.iload_n 3, 1) := by decide +kernel
theorem dX5_canStep_15 : decode cX5_canStep 15 = .ok (.iconst 2, 1) := by decide +kernel
theorem dX5_canStep_16 : decode cX5_canStep 16 = .ok (.if_icmp .gt 13, 3) := by decide +kernel
theorem dX5_canStep_19 : decode cX5_canStep 19 = .ok (.iload_n 3, 1) := by decide +kernel
theorem dX5_canStep_20 : decode cX5_canStep 20 = .ok (.bipush (-2), 2) := by decide +kernel
theorem dX5_canStep_22 : decode cX5_canStep 22 = .ok (.if_icmp .lt 7, 3) := by decide +kernel
theorem dX5_canStep_25 : decode cX5_canStep 25 = .ok (.iconst 1, 1) := by decide +kernel
theorem dX5_canStep_26 : decode cX5_canStep 26 = .ok (.goto 4, 3) := by decide +kernel
theorem dX5_canStep_29 : decode cX5_canStep 29 = .ok (.iconst 0, 1) := by decide +kernel
theorem dX5_canStep_30 : decode cX5_canStep 30 = .ok (.ireturn, 1) := by decide +kernel
theorem dX4_spread_0 : decode cX4_spread 0 = .ok (.aload_n 0, 1) := by decide +kernel
theorem dX4_spread_1 : decode cX4_spread 1 = .ok (.getfield 9, 3) := by decide +kernel
theorem dX4_spread_4 : decode cX4_spread 4 = .ok (.iconst (-1), 1) := by decide +kernel
theorem dX4_spread_5 : decode cX4_spread 5 = .ok (.invokestatic 21, 3) := by decide +kernel
theorem dX4_spread_8 : decode cX4_spread 8 = .ok (.aload_n 0, 1) := by decide +kernel
theorem dX4_spread_9 : decode cX4_spread 9 = .ok (.getfield 9, 3) := by decide +kernel
theorem dX4_spread_12 : decode cX4_spread 12 = .ok (.iload_n 2, 1) := by decide +kernel
theorem dX4_spread_13 : decode cX4_spread 13 = .ok (.iconst 0, 1) := by decide +kernel
theorem dX4_spread_14 : decode cX4_spread 14 = .ok (.iastore, 1) := by decide +kernel
theorem dX4_spread_15 : decode cX4_spread 15 = .ok (.aload_n 0, 1) := by decide +kernel
theorem dX4_spread_16 : decode cX4_spread 16 = .ok (.getfield 15, 3) := by decide +kernel
theorem dX4_spread_19 : decode cX4_spread 19 = .ok (.iconst 0, 1) := by decide +kernel
theorem dX4_spread_20 : decode cX4_spread 20 = .ok (.iload_n 2, 1) := by decide +kernel
theorem dX4_spread_21 : decode cX4_spread 21 = .ok (.iastore, 1) := by decide +kernel
theorem dX4_spread_22 : decode cX4_spread 22 = .ok (.iconst 1, 1) := by decide +kernel
theorem dX4_spread_23 : decode cX4_spread 23 = .ok (.istore 4, 2) := by decide +kernel
theorem dX4_spread_25 : decode cX4_spread 25 = .ok (.iconst 0, 1) := by decide +kernel
theorem dX4_spread_26 : decode cX4_spread 26 = .ok (.istore 5, 2) := by decide +kernel
theorem dX4_spread_28 : decode cX4_spread 28 = .ok (.iload 5, 2) := by decide +kernel
theorem dX4_spread_30 : decode cX4_spread 30 = .ok (.iload 4, 2) := by decide +kernel
theorem dX4_spread_32 : decode cX4_spread 32 = .ok (.if_icmp .ge 118, 3) := by decide +kernel
theorem dX4_spread_35 : decode cX4_spread 35 = .ok (.iload_n 3, 1) := by decide +kernel
theorem dX4_spread_36 : decode cX4_spread 36 = .ok (.iconst (-1), 1) := by decide +kernel
theorem dX4_spread_37 : decode cX4_spread 37 = .ok (.if_icmp .eq 13, 3) := by decide +kernel
theorem dX4_spread_40 : decode cX4_spread 40 = .ok (.aload_n 0, 1) := by decide +kernel
theorem dX4_spread_41 : decode cX4_spread 41 = .ok (.getfield 9, 3) := by decide +kernel
theorem dX4_spread_44 : decode cX4_spread 44 = .ok (.iload_n 3, 1) := by decide +kernel
theorem dX4_spread_45 : decode cX4_spread 45 = .ok (.iaload, 1) := by decide +kernel
theorem dX4_spread_46 : decode cX4_spread 46 = .ok (.iconst (-1), 1) := by decide +kernel
theorem dX4_spread_47 : decode cX4_spread 47 = .ok (.if_icmp .ne 103, 3) := by decide +kernel
theorem dX4_spread_50 : decode cX4_spread 50 = .ok (.aload_n 0, 1) := by decide +kernel
theorem dX4_spread_51 : decode cX4_spread 51 = .ok (.getfield 15, 3) := by decide +kernel
theorem dX4_spread_54 : decode cX4_spread 54 = .ok (.iload 5, 2) := by decide +kernel
theorem dX4_spread_56 : decode cX4_spread 56 = .ok (.iaload, 1) := by decide +kernel
theorem dX4_spread_57 : decode cX4_spread 57 = .ok (.istore 6, 2) := by decide +kernel
theorem dX4_spread_59 : decode cX4_spread 59 = .ok (.iconst 0, 1) := by decide +kernel
theorem dX4_spread_60 : decode cX4_spread 60 = .ok (.istore 7, 2) := by decide +kernel
theorem dX4_spread_62 : decode cX4_spread 62 = .ok (.iload 7, 2) := by decide +kernel
theorem dX4_spread_64 : decode cX4_spread 64 = .ok (.iconst 4, 1) := by decide +kernel
theorem dX4_spread_65 : decode cX4_spread 65 = .ok (.if_icmp .ge 79, 3) := by decide +kernel
theorem dX4_spread_68 : decode cX4_spread 68 = .ok (.iload 6, 2) := by decide +kernel
theorem dX4_spread_70 : decode cX4_spread 70 = .ok (.iload 7, 2) := by decide +kernel
theorem dX4_spread_72 : decode cX4_spread 72 = .ok (.invokestatic 27, 3) := by decide +kernel
theorem dX4_spread_75 : decode cX4_spread 75 = .ok (.istore 8, 2) := by decide +kernel
theorem dX4_spread_77 : decode cX4_spread 77 = .ok (.iload 8, 2) := by decide +kernel
theorem dX4_spread_79 : decode cX4_spread 79 = .ok (.iconst (-1), 1) := by decide +kernel
theorem dX4_spread_80 : decode cX4_spread 80 = .ok (.if_icmp .eq 58, 3) := by decide +kernel
theorem dX4_spread_83 : decode cX4_spread 83 = .ok (.iload 4, 2) := by decide +kernel
theorem dX4_spread_85 : decode cX4_spread 85 = .ok (.bipush 96, 2) := by decide +kernel
theorem dX4_spread_87 : decode cX4_spread 87 = .ok (.if_icmp .ge 51, 3) := by decide +kernel
theorem dX4_spread_90 : decode cX4_spread 90 = .ok (.aload_n 0, 1) := by decide +kernel
theorem dX4_spread_91 : decode cX4_spread 91 = .ok (.iload 8, 2) := by decide +kernel
theorem dX4_spread_93 : decode cX4_spread 93 = .ok (.invokevirtual 31, 3) := by decide +kernel
theorem dX4_spread_96 : decode cX4_spread 96 = .ok (.ifCond .eq 42, 3) := by decide +kernel
theorem dX4_spread_99 : decode cX4_spread 99 = .ok (.aload_n 1, 1) := by decide +kernel
theorem dX4_spread_100 : decode cX4_spread 100 = .ok (.iload 6, 2) := by decide +kernel
theorem dX4_spread_102 : decode cX4_spread 102 = .ok (.iload 8, 2) := by decide +kernel
theorem dX4_spread_104 : decode cX4_spread 104 = .ok (.invokevirtual 35, 3) := by decide +kernel
theorem dX4_spread_107 : decode cX4_spread 107 = .ok (.ifCond .eq 31, 3) := by decide +kernel
theorem dX4_spread_110 : decode cX4_spread 110 = .ok (.aload_n 0, 1) := by decide +kernel
theorem dX4_spread_111 : decode cX4_spread 111 = .ok (.getfield 9, 3) := by decide +kernel
theorem dX4_spread_114 : decode cX4_spread 114 = .ok (.iload 8, 2) := by decide +kernel
theorem dX4_spread_116 : decode cX4_spread 116 = .ok (.aload_n 0, 1) := by decide +kernel
theorem dX4_spread_117 : decode cX4_spread 117 = .ok (.getfield 9, 3) := by decide +kernel
theorem dX4_spread_120 : decode cX4_spread 120 = .ok (.iload 6, 2) := by decide +kernel
theorem dX4_spread_122 : decode cX4_spread 122 = .ok (.iaload, 1) := by decide +kernel
theorem dX4_spread_123 : decode cX4_spread 123 = .ok (.iconst 1, 1) := by decide +kernel
theorem dX4_spread_124 : decode cX4_spread 124 = .ok (.iadd, 1) := by decide +kernel
theorem dX4_spread_125 : decode cX4_spread 125 = .ok (.iastore, 1) := by decide +kernel
theorem dX4_spread_126 : decode cX4_spread 126 = .ok (.aload_n 0, 1) := by decide +kernel
theorem dX4_spread_127 : decode cX4_spread 127 = .ok (.getfield 15, 3) := by decide +kernel
theorem dX4_spread_130 : decode cX4_spread 130 = .ok (.iload 4, 2) := by decide +kernel
theorem dX4_spread_132 : decode cX4_spread 132 = .ok (.iload 8, 2) := by decide +kernel
theorem dX4_spread_134 : decode cX4_spread 134 = .ok (.iastore, 1) := by decide +kernel
theorem dX4_spread_135 : decode cX4_spread 135 = .ok (.iinc 4 1, 3) := by decide +kernel
theorem dX4_spread_138 : decode cX4_spread 138 = .ok (.iinc 7 1, 3) := by decide +kernel
theorem dX4_spread_141 : decode cX4_spread 141 = .ok (.goto (-79), 3) := by decide +kernel
theorem dX4_spread_144 : decode cX4_spread 144 = .ok (.iinc 5 1, 3) := by decide +kernel
theorem dX4_spread_147 : decode cX4_spread 147 = .ok (.goto (-119), 3) := by decide +kernel
theorem dX4_spread_150 : decode cX4_spread 150 = .ok (.return_, 1) := by decide +kernel
theorem dX0_stepsBetween_0 : decode cX0_stepsBetween 0 = .ok (.aload_n 0, 1) := by decide +kernel
theorem dX0_stepsBetween_1 : decode cX0_stepsBetween 1 = .ok (.getfield 12, 3) := by decide +kernel
theorem dX0_stepsBetween_4 : decode cX0_stepsBetween 4 = .ok (.aload_n 1, 1) := by decide +kernel
theorem dX0_stepsBetween_5 : decode cX0_stepsBetween 5 = .ok (.iload_n 3, 1) := by decide +kernel
theorem dX0_stepsBetween_6 : decode cX0_stepsBetween 6 = .ok (.iload_n 2, 1) := by decide +kernel
theorem dX0_stepsBetween_7 : decode cX0_stepsBetween 7 = .ok (.invokevirtual 22, 3) := by decide +kernel
theorem dX0_stepsBetween_10 : decode cX0_stepsBetween 10 = .ok (.aload_n 0, 1) := by decide +kernel
theorem dX0_stepsBetween_11 : decode cX0_stepsBetween 11 = .ok (.getfield 12, 3) := by decide +kernel
theorem dX0_stepsBetween_14 : decode cX0_stepsBetween 14 = .ok (.getfield 26, 3) := by decide +kernel
theorem dX0_stepsBetween_17 : decode cX0_stepsBetween 17 = .ok (.iload_n 2, 1) := by decide +kernel
theorem dX0_stepsBetween_18 : decode cX0_stepsBetween 18 = .ok (.iaload, 1) := by decide +kernel
theorem dX0_stepsBetween_19 : decode cX0_stepsBetween 19 = .ok (.ireturn, 1) := by decide +kernel
theorem dX5_between_0 : decode cX5_between 0 = .ok (.iload_n 3, 1) := by decide +kernel
theorem dX5_between_1 : decode cX5_between 1 = .ok (.iconst 1, 1) := by decide +kernel
theorem dX5_between_2 : decode cX5_between 2 = .ok (.if_icmp .ge 7, 3) := by decide +kernel
theorem dX5_between_5 : decode cX5_between 5 = .ok (.iload_n 0, 1) := by decide +kernel
theorem dX5_between_6 : decode cX5_between 6 = .ok (.goto 18, 3) := by decide +kernel
theorem dX5_between_9 : decode cX5_between 9 = .ok (.iconst 2, 1) := by decide +kernel
theorem dX5_between_10 : decode cX5_between 10 = .ok (.iload_n 3, 1) := by decide +kernel
theorem dX5_between_11 : decode cX5_between 11 = .ok (.iload_n 0, 1) := by decide +kernel
theorem dX5_between_12 : decode cX5_between 12 = .ok (.imul, 1) := by decide +kernel
theorem dX5_between_13 : decode cX5_between 13 = .ok (.iload_n 2, 1) := by decide +kernel
theorem dX5_between_14 : decode cX5_between 14 = .ok (.iload_n 1, 1) := by decide +kernel
theorem dX5_between_15 : decode cX5_between 15 = .ok (.imul, 1) := by decide +kernel
theorem dX5_between_16 : decode cX5_between 16 = .ok (.iadd, 1) := by decide +kernel
theorem dX5_between_17 : decode cX5_between 17 = .ok (.imul, 1) := by decide +kernel
theorem dX5_between_18 : decode cX5_between 18 = .ok (.iload_n 3, 1) := by decide +kernel
theorem dX5_between_19 : decode cX5_between 19 = .ok (.iadd, 1) := by decide +kernel
theorem dX5_between_20 : decode cX5_between 20 = .ok (.iconst 2, 1) := by decide +kernel
theorem dX5_between_21 : decode cX5_between 21 = .ok (.iload_n 3, 1) := by decide +kernel
theorem dX5_between_22 : decode cX5_between 22 = .ok (.imul, 1) := by decide +kernel
theorem dX5_between_23 : decode cX5_between 23 = .ok (.idiv, 1) := by decide +kernel
theorem dX5_between_24 : decode cX5_between 24 = .ok (.ireturn, 1) := by decide +kernel
theorem dX5_inSight_0 : decode cX5_inSight 0 = .ok (.iload_n 2, 1) := by decide +kernel
theorem dX5_inSight_1 : decode cX5_inSight 1 = .ok (.bipush 12, 2) := by decide +kernel
theorem dX5_inSight_3 : decode cX5_inSight 3 = .ok (.irem, 1) := by decide +kernel
theorem dX5_inSight_4 : decode cX5_inSight 4 = .ok (.iload_n 1, 1) := by decide +kernel
theorem dX5_inSight_5 : decode cX5_inSight 5 = .ok (.bipush 12, 2) := by decide +kernel
theorem dX5_inSight_7 : decode cX5_inSight 7 = .ok (.irem, 1) := by decide +kernel
theorem dX5_inSight_8 : decode cX5_inSight 8 = .ok (.isub, 1) := by decide +kernel
theorem dX5_inSight_9 : decode cX5_inSight 9 = .ok (.istore_n 3, 1) := by decide +kernel
theorem dX5_inSight_10 : decode cX5_inSight 10 = .ok (.iload_n 2, 1) := by decide +kernel
theorem dX5_inSight_11 : decode cX5_inSight 11 = .ok (.bipush 12, 2) := by decide +kernel
theorem dX5_inSight_13 : decode cX5_inSight 13 = .ok (.idiv, 1) := by decide +kernel
theorem dX5_inSight_14 : decode cX5_inSight 14 = .ok (.iload_n 1, 1) := by decide +kernel
theorem dX5_inSight_15 : decode cX5_inSight 15 = .ok (.bipush 12, 2) := by decide +kernel
theorem dX5_inSight_17 : decode cX5_inSight 17 = .ok (.idiv, 1) := by decide +kernel
theorem dX5_inSight_18 : decode cX5_inSight 18 = .ok (.isub, 1) := by decide +kernel
theorem dX5_inSight_19 : decode cX5_inSight 19 = .ok (.istore 4, 2) := by decide +kernel
theorem dX5_inSight_21 : decode cX5_inSight 21 = .ok (.iload_n 3, 1) := by decide +kernel
theorem dX5_inSight_22 : decode cX5_inSight 22 = .ok (.invokestatic 29, 3) := by decide +kernel
theorem dX5_inSight_25 : decode cX5_inSight 25 = .ok (.iload 4, 2) := by decide +kernel
theorem dX5_inSight_27 : decode cX5_inSight 27 = .ok (.invokestatic 29, 3) := by decide +kernel
theorem dX5_inSight_30 : decode cX5_inSight 30 = .ok (.invokestatic 35, 3) := by decide +kernel
theorem dX5_inSight_33 : decode cX5_inSight 33 = .ok (.istore 5, 2) := by decide +kernel
theorem dX5_inSight_35 : decode cX5_inSight 35 = .ok (.iconst 1, 1) := by decide +kernel
theorem dX5_inSight_36 : decode cX5_inSight 36 = .ok (.istore 6, 2) := by decide +kernel
theorem dX5_inSight_38 : decode cX5_inSight 38 = .ok (.iload 6, 2) := by decide +kernel
theorem dX5_inSight_40 : decode cX5_inSight 40 = .ok (.iload 5, 2) := by decide +kernel
theorem dX5_inSight_42 : decode cX5_inSight 42 = .ok (.if_icmp .ge 89, 3) := by decide +kernel
theorem dX5_inSight_45 : decode cX5_inSight 45 = .ok (.iload_n 1, 1) := by decide +kernel
theorem dX5_inSight_46 : decode cX5_inSight 46 = .ok (.bipush 12, 2) := by decide +kernel
theorem dX5_inSight_48 : decode cX5_inSight 48 = .ok (.irem, 1) := by decide +kernel
theorem dX5_inSight_49 : decode cX5_inSight 49 = .ok (.iload_n 3, 1) := by decide +kernel
theorem dX5_inSight_50 : decode cX5_inSight 50 = .ok (.iload 6, 2) := by decide +kernel
theorem dX5_inSight_52 : decode cX5_inSight 52 = .ok (.iload 5, 2) := by decide +kernel
theorem dX5_inSight_54 : decode cX5_inSight 54 = .ok (.invokestatic 38, 3) := by decide +kernel
theorem dX5_inSight_57 : decode cX5_inSight 57 = .ok (.istore 7, 2) := by decide +kernel
theorem dX5_inSight_59 : decode cX5_inSight 59 = .ok (.iload_n 1, 1) := by decide +kernel
theorem dX5_inSight_60 : decode cX5_inSight 60 = .ok (.bipush 12, 2) := by decide +kernel
theorem dX5_inSight_62 : decode cX5_inSight 62 = .ok (.idiv, 1) := by decide +kernel
theorem dX5_inSight_63 : decode cX5_inSight 63 = .ok (.iload 4, 2) := by decide +kernel
theorem dX5_inSight_65 : decode cX5_inSight 65 = .ok (.iload 6, 2) := by decide +kernel
theorem dX5_inSight_67 : decode cX5_inSight 67 = .ok (.iload 5, 2) := by decide +kernel
theorem dX5_inSight_69 : decode cX5_inSight 69 = .ok (.invokestatic 38, 3) := by decide +kernel
theorem dX5_inSight_72 : decode cX5_inSight 72 = .ok (.istore 8, 2) := by decide +kernel
theorem dX5_inSight_74 : decode cX5_inSight 74 = .ok (.aload_n 0, 1) := by decide +kernel
theorem dX5_inSight_75 : decode cX5_inSight 75 = .ok (.getfield 9, 3) := by decide +kernel
theorem dX5_inSight_78 : decode cX5_inSight 78 = .ok (.iload_n 1, 1) := by decide +kernel
theorem dX5_inSight_79 : decode cX5_inSight 79 = .ok (.iaload, 1) := by decide +kernel
theorem dX5_inSight_80 : decode cX5_inSight 80 = .ok (.iconst 1, 1) := by decide +kernel
theorem dX5_inSight_81 : decode cX5_inSight 81 = .ok (.iadd, 1) := by decide +kernel
theorem dX5_inSight_82 : decode cX5_inSight 82 = .ok (.iload 5, 2) := by decide +kernel
theorem dX5_inSight_84 : decode cX5_inSight 84 = .ok (.iload 6, 2) := by decide +kernel
theorem dX5_inSight_86 : decode cX5_inSight 86 = .ok (.isub, 1) := by decide +kernel
theorem dX5_inSight_87 : decode cX5_inSight 87 = .ok (.imul, 1) := by decide +kernel
theorem dX5_inSight_88 : decode cX5_inSight 88 = .ok (.aload_n 0, 1) := by decide +kernel
theorem dX5_inSight_89 : decode cX5_inSight 89 = .ok (.getfield 9, 3) := by decide +kernel
theorem dX5_inSight_92 : decode cX5_inSight 92 = .ok (.iload_n 2, 1) := by decide +kernel
theorem dX5_inSight_93 : decode cX5_inSight 93 = .ok (.iaload, 1) := by decide +kernel
theorem dX5_inSight_94 : decode cX5_inSight 94 = .ok (.iconst 1, 1) := by decide +kernel
theorem dX5_inSight_95 : decode cX5_inSight 95 = .ok (.iadd, 1) := by decide +kernel
theorem dX5_inSight_96 : decode cX5_inSight 96 = .ok (.iload 6, 2) := by decide +kernel
theorem dX5_inSight_98 : decode cX5_inSight 98 = .ok (.imul, 1) := by decide +kernel
theorem dX5_inSight_99 : decode cX5_inSight 99 = .ok (.iadd, 1) := by decide +kernel
theorem dX5_inSight_100 : decode cX5_inSight 100 = .ok (.istore 9, 2) := by decide +kernel
theorem dX5_inSight_102 : decode cX5_inSight 102 = .ok (.aload_n 0, 1) := by decide +kernel
theorem dX5_inSight_103 : decode cX5_inSight 103 = .ok (.getfield 9, 3) := by decide +kernel
theorem dX5_inSight_106 : decode cX5_inSight 106 = .ok (.bipush 12, 2) := by decide +kernel
theorem dX5_inSight_108 : decode cX5_inSight 108 = .ok (.iload 8, 2) := by decide +kernel
theorem dX5_inSight_110 : decode cX5_inSight 110 = .ok (.imul, 1) := by decide +kernel
theorem dX5_inSight_111 : decode cX5_inSight 111 = .ok (.iload 7, 2) := by decide +kernel
theorem dX5_inSight_113 : decode cX5_inSight 113 = .ok (.iadd, 1) := by decide +kernel
theorem dX5_inSight_114 : decode cX5_inSight 114 = .ok (.iaload, 1) := by decide +kernel
theorem dX5_inSight_115 : decode cX5_inSight 115 = .ok (.iload 5, 2) := by decide +kernel
theorem dX5_inSight_117 : decode cX5_inSight 117 = .ok (.imul, 1) := by decide +kernel
theorem dX5_inSight_118 : decode cX5_inSight 118 = .ok (.iload 9, 2) := by decide +kernel
theorem dX5_inSight_120 : decode cX5_inSight 120 = .ok (.if_icmp .le 5, 3) := by decide +kernel
theorem dX5_inSight_123 : decode cX5_inSight 123 = .ok (.iconst 0, 1) := by decide +kernel
theorem dX5_inSight_124 : decode cX5_inSight 124 = .ok (.ireturn, 1) := by decide +kernel
theorem dX5_inSight_125 : decode cX5_inSight 125 = .ok (.iinc 6 1, 3) := by decide +kernel
theorem dX5_inSight_128 : decode cX5_inSight 128 = .ok (.goto (-90), 3) := by decide +kernel
theorem dX5_inSight_131 : decode cX5_inSight 131 = .ok (.iconst 1, 1) := by decide +kernel
theorem dX5_inSight_132 : decode cX5_inSight 132 = .ok (.ireturn, 1) := by decide +kernel
theorem dX0_ridingTurns_0 : decode cX0_ridingTurns 0 = .ok (.iload_n 0, 1) := by decide +kernel
theorem dX0_ridingTurns_1 : decode cX0_ridingTurns 1 = .ok (.iconst (-1), 1) := by decide +kernel
theorem dX0_ridingTurns_2 : decode cX0_ridingTurns 2 = .ok (.if_icmp .ne 7, 3) := by decide +kernel
theorem dX0_ridingTurns_5 : decode cX0_ridingTurns 5 = .ok (.iconst (-1), 1) := by decide +kernel
theorem dX0_ridingTurns_6 : decode cX0_ridingTurns 6 = .ok (.goto 12, 3) := by decide +kernel
theorem dX0_ridingTurns_9 : decode cX0_ridingTurns 9 = .ok (.iconst 1, 1) := by decide +kernel
theorem dX0_ridingTurns_10 : decode cX0_ridingTurns 10 = .ok (.iload_n 0, 1) := by decide +kernel
theorem dX0_ridingTurns_11 : decode cX0_ridingTurns 11 = .ok (.iconst 2, 1) := by decide +kernel
theorem dX0_ridingTurns_12 : decode cX0_ridingTurns 12 = .ok (.iadd, 1) := by decide +kernel
theorem dX0_ridingTurns_13 : decode cX0_ridingTurns 13 = .ok (.iconst 3, 1) := by decide +kernel
theorem dX0_ridingTurns_14 : decode cX0_ridingTurns 14 = .ok (.idiv, 1) := by decide +kernel
theorem dX0_ridingTurns_15 : decode cX0_ridingTurns 15 = .ok (.invokestatic 88, 3) := by decide +kernel
theorem dX0_ridingTurns_18 : decode cX0_ridingTurns 18 = .ok (.ireturn, 1) := by decide +kernel
theorem dX0_turnsTo_0 : decode cX0_turnsTo 0 = .ok (.aload_n 1, 1) := by decide +kernel
theorem dX0_turnsTo_1 : decode cX0_turnsTo 1 = .ok (.getfield 29, 3) := by decide +kernel
theorem dX0_turnsTo_4 : decode cX0_turnsTo 4 = .ok (.iload_n 2, 1) := by decide +kernel
theorem dX0_turnsTo_5 : decode cX0_turnsTo 5 = .ok (.aaload, 1) := by decide +kernel
theorem dX0_turnsTo_6 : decode cX0_turnsTo 6 = .ok (.astore_n 3, 1) := by decide +kernel
theorem dX0_turnsTo_7 : decode cX0_turnsTo 7 = .ok (.aload_n 1, 1) := by decide +kernel
theorem dX0_turnsTo_8 : decode cX0_turnsTo 8 = .ok (.getfield 35, 3) := by decide +kernel
theorem dX0_turnsTo_11 : decode cX0_turnsTo 11 = .ok (.aload_n 3, 1) := by decide +kernel
theorem dX0_turnsTo_12 : decode cX0_turnsTo 12 = .ok (.getfield 38, 3) := by decide +kernel
theorem dX0_turnsTo_15 : decode cX0_turnsTo 15 = .ok (.iaload, 1) := by decide +kernel
theorem dX0_turnsTo_16 : decode cX0_turnsTo 16 = .ok (.istore 4, 2) := by decide +kernel
theorem dX0_turnsTo_18 : decode cX0_turnsTo 18 = .ok (.aload_n 1, 1) := by decide +kernel
theorem dX0_turnsTo_19 : decode cX0_turnsTo 19 = .ok (.getfield 44, 3) := by decide +kernel
theorem dX0_turnsTo_22 : decode cX0_turnsTo 22 = .ok (.iload 4, 2) := by decide +kernel
theorem dX0_turnsTo_24 : decode cX0_turnsTo 24 = .ok (.aload_n 3, 1) := by decide +kernel
theorem dX0_turnsTo_25 : decode cX0_turnsTo 25 = .ok (.getfield 48, 3) := by decide +kernel
theorem dX0_turnsTo_28 : decode cX0_turnsTo 28 = .ok (.invokevirtual 51, 3) := by decide +kernel
theorem dX0_turnsTo_31 : decode cX0_turnsTo 31 = .ok (.ifCond .eq 5, 3) := by decide +kernel
theorem dX0_turnsTo_34 : decode cX0_turnsTo 34 = .ok (.iconst 1, 1) := by decide +kernel
theorem dX0_turnsTo_35 : decode cX0_turnsTo 35 = .ok (.ireturn, 1) := by decide +kernel
theorem dX0_turnsTo_36 : decode cX0_turnsTo 36 = .ok (.aload_n 0, 1) := by decide +kernel
theorem dX0_turnsTo_37 : decode cX0_turnsTo 37 = .ok (.aload_n 1, 1) := by decide +kernel
theorem dX0_turnsTo_38 : decode cX0_turnsTo 38 = .ok (.getfield 44, 3) := by decide +kernel
theorem dX0_turnsTo_41 : decode cX0_turnsTo 41 = .ok (.iload 4, 2) := by decide +kernel
theorem dX0_turnsTo_43 : decode cX0_turnsTo 43 = .ok (.aload_n 3, 1) := by decide +kernel
theorem dX0_turnsTo_44 : decode cX0_turnsTo 44 = .ok (.getfield 48, 3) := by decide +kernel
theorem dX0_turnsTo_47 : decode cX0_turnsTo 47 = .ok (.invokevirtual 57, 3) := by decide +kernel
theorem dX0_turnsTo_50 : decode cX0_turnsTo 50 = .ok (.invokestatic 61, 3) := by decide +kernel
theorem dX0_turnsTo_53 : decode cX0_turnsTo 53 = .ok (.ireturn, 1) := by decide +kernel
theorem dX0_refusal_0 : decode cX0_refusal 0 = .ok (.aload_n 1, 1) := by decide +kernel
theorem dX0_refusal_1 : decode cX0_refusal 1 = .ok (.getfield 29, 3) := by decide +kernel
theorem dX0_refusal_4 : decode cX0_refusal 4 = .ok (.iload_n 2, 1) := by decide +kernel
theorem dX0_refusal_5 : decode cX0_refusal 5 = .ok (.aaload, 1) := by decide +kernel
theorem dX0_refusal_6 : decode cX0_refusal 6 = .ok (.getfield 65, 3) := by decide +kernel
theorem dX0_refusal_9 : decode cX0_refusal 9 = .ok (.iconst 2, 1) := by decide +kernel
theorem dX0_refusal_10 : decode cX0_refusal 10 = .ok (.if_icmp .ne 5, 3) := by decide +kernel
theorem dX0_refusal_13 : decode cX0_refusal 13 = .ok (.iconst 1, 1) := by decide +kernel
theorem dX0_refusal_14 : decode cX0_refusal 14 = .ok (.ireturn, 1) := by decide +kernel
theorem dX0_refusal_15 : decode cX0_refusal 15 = .ok (.aload_n 0, 1) := by decide +kernel
theorem dX0_refusal_16 : decode cX0_refusal 16 = .ok (.aload_n 1, 1) := by decide +kernel
theorem dX0_refusal_17 : decode cX0_refusal 17 = .ok (.iload_n 2, 1) := by decide +kernel
theorem dX0_refusal_18 : decode cX0_refusal 18 = .ok (.invokevirtual 68, 3) := by decide +kernel
theorem dX0_refusal_21 : decode cX0_refusal 21 = .ok (.iconst (-1), 1) := by decide +kernel
theorem dX0_refusal_22 : decode cX0_refusal 22 = .ok (.if_icmp .ne 5, 3) := by decide +kernel
theorem dX0_refusal_25 : decode cX0_refusal 25 = .ok (.iconst 2, 1) := by decide +kernel
theorem dX0_refusal_26 : decode cX0_refusal 26 = .ok (.ireturn, 1) := by decide +kernel
theorem dX0_refusal_27 : decode cX0_refusal 27 = .ok (.aload_n 1, 1) := by decide +kernel
theorem dX0_refusal_28 : decode cX0_refusal 28 = .ok (.getfield 72, 3) := by decide +kernel
theorem dX0_refusal_31 : decode cX0_refusal 31 = .ok (.bipush 30, 2) := by decide +kernel
theorem dX0_refusal_33 : decode cX0_refusal 33 = .ok (.if_icmp .lt 7, 3) := by decide +kernel
theorem dX0_refusal_36 : decode cX0_refusal 36 = .ok (.iconst 3, 1) := by decide +kernel
theorem dX0_refusal_37 : decode cX0_refusal 37 = .ok (.goto 4, 3) := by decide +kernel
theorem dX0_refusal_40 : decode cX0_refusal 40 = .ok (.iconst 0, 1) := by decide +kernel
theorem dX0_refusal_41 : decode cX0_refusal 41 = .ok (.ireturn, 1) := by decide +kernel
theorem dX5_init_0 : decode cX5_init 0 = .ok (.aload_n 0, 1) := by decide +kernel
theorem dX5_init_1 : decode cX5_init 1 = .ok (.invokespecial 3, 3) := by decide +kernel
theorem dX5_init_4 : decode cX5_init 4 = .ok (.aload_n 0, 1) := by decide +kernel
theorem dX5_init_5 : decode cX5_init 5 = .ok (.bipush 96, 2) := by decide +kernel
theorem dX5_init_7 : decode cX5_init 7 = .ok (.newarray .int, 2) := by decide +kernel
theorem dX5_init_9 : decode cX5_init 9 = .ok (.putfield 9, 3) := by decide +kernel
theorem dX5_init_12 : decode cX5_init 12 = .ok (.return_, 1) := by decide +kernel
theorem dX7_init_0 : decode cX7_init 0 = .ok (.aload_n 0, 1) := by decide +kernel
theorem dX7_init_1 : decode cX7_init 1 = .ok (.invokespecial 3, 3) := by decide +kernel
theorem dX7_init_4 : decode cX7_init 4 = .ok (.return_, 1) := by decide +kernel
theorem dX3_init_0 : decode cX3_init 0 = .ok (.aload_n 0, 1) := by decide +kernel
theorem dX3_init_1 : decode cX3_init 1 = .ok (.invokespecial 1, 3) := by decide +kernel
theorem dX3_init_4 : decode cX3_init 4 = .ok (.return_, 1) := by decide +kernel
theorem dX8_init_0 : decode cX8_init 0 = .ok (.aload_n 0, 1) := by decide +kernel
theorem dX8_init_1 : decode cX8_init 1 = .ok (.invokespecial 3, 3) := by decide +kernel
theorem dX8_init_4 : decode cX8_init 4 = .ok (.aload_n 0, 1) := by decide +kernel
theorem dX8_init_5 : decode cX8_init 5 = .ok (.new 9, 3) := by decide +kernel
theorem dX8_init_8 : decode cX8_init 8 = .ok (.dup, 1) := by decide +kernel
theorem dX8_init_9 : decode cX8_init 9 = .ok (.invokespecial 11, 3) := by decide +kernel
theorem dX8_init_12 : decode cX8_init 12 = .ok (.putfield 12, 3) := by decide +kernel
theorem dX8_init_15 : decode cX8_init 15 = .ok (.aload_n 0, 1) := by decide +kernel
theorem dX8_init_16 : decode cX8_init 16 = .ok (.iconst 2, 1) := by decide +kernel
theorem dX8_init_17 : decode cX8_init 17 = .ok (.newarray .int, 2) := by decide +kernel
theorem dX8_init_19 : decode cX8_init 19 = .ok (.putfield 18, 3) := by decide +kernel
theorem dX8_init_22 : decode cX8_init 22 = .ok (.aload_n 0, 1) := by decide +kernel
theorem dX8_init_23 : decode cX8_init 23 = .ok (.bipush 12, 2) := by decide +kernel
theorem dX8_init_25 : decode cX8_init 25 = .ok (.anewarray 22, 3) := by decide +kernel
theorem dX8_init_28 : decode cX8_init 28 = .ok (.putfield 24, 3) := by decide +kernel
theorem dX8_init_31 : decode cX8_init 31 = .ok (.aload_n 0, 1) := by decide +kernel
theorem dX8_init_32 : decode cX8_init 32 = .ok (.bipush 30, 2) := by decide +kernel
theorem dX8_init_34 : decode cX8_init 34 = .ok (.anewarray 28, 3) := by decide +kernel
theorem dX8_init_37 : decode cX8_init 37 = .ok (.putfield 30, 3) := by decide +kernel
theorem dX8_init_40 : decode cX8_init 40 = .ok (.aload_n 0, 1) := by decide +kernel
theorem dX8_init_41 : decode cX8_init 41 = .ok (.iconst 2, 1) := by decide +kernel
theorem dX8_init_42 : decode cX8_init 42 = .ok (.newarray .int, 2) := by decide +kernel
theorem dX8_init_44 : decode cX8_init 44 = .ok (.putfield 34, 3) := by decide +kernel
theorem dX8_init_47 : decode cX8_init 47 = .ok (.aload_n 0, 1) := by decide +kernel
theorem dX8_init_48 : decode cX8_init 48 = .ok (.getfield 18, 3) := by decide +kernel
theorem dX8_init_51 : decode cX8_init 51 = .ok (.iconst 1, 1) := by decide +kernel
theorem dX8_init_52 : decode cX8_init 52 = .ok (.bipush 95, 2) := by decide +kernel
theorem dX8_init_54 : decode cX8_init 54 = .ok (.iastore, 1) := by decide +kernel
theorem dX8_init_55 : decode cX8_init 55 = .ok (.iconst 0, 1) := by decide +kernel
theorem dX8_init_56 : decode cX8_init 56 = .ok (.istore_n 1, 1) := by decide +kernel
theorem dX8_init_57 : decode cX8_init 57 = .ok (.iload_n 1, 1) := by decide +kernel
theorem dX8_init_58 : decode cX8_init 58 = .ok (.bipush 12, 2) := by decide +kernel
theorem dX8_init_60 : decode cX8_init 60 = .ok (.if_icmp .ge 22, 3) := by decide +kernel
theorem dX8_init_63 : decode cX8_init 63 = .ok (.aload_n 0, 1) := by decide +kernel
theorem dX8_init_64 : decode cX8_init 64 = .ok (.getfield 24, 3) := by decide +kernel
theorem dX8_init_67 : decode cX8_init 67 = .ok (.iload_n 1, 1) := by decide +kernel
theorem dX8_init_68 : decode cX8_init 68 = .ok (.new 22, 3) := by decide +kernel
theorem dX8_init_71 : decode cX8_init 71 = .ok (.dup, 1) := by decide +kernel
theorem dX8_init_72 : decode cX8_init 72 = .ok (.invokespecial 37, 3) := by decide +kernel
theorem dX8_init_75 : decode cX8_init 75 = .ok (.aastore, 1) := by decide +kernel
theorem dX8_init_76 : decode cX8_init 76 = .ok (.iinc 1 1, 3) := by decide +kernel
theorem dX8_init_79 : decode cX8_init 79 = .ok (.goto (-22), 3) := by decide +kernel
theorem dX8_init_82 : decode cX8_init 82 = .ok (.iconst 0, 1) := by decide +kernel
theorem dX8_init_83 : decode cX8_init 83 = .ok (.istore_n 1, 1) := by decide +kernel
theorem dX8_init_84 : decode cX8_init 84 = .ok (.iload_n 1, 1) := by decide +kernel
theorem dX8_init_85 : decode cX8_init 85 = .ok (.bipush 30, 2) := by decide +kernel
theorem dX8_init_87 : decode cX8_init 87 = .ok (.if_icmp .ge 22, 3) := by decide +kernel
theorem dX8_init_90 : decode cX8_init 90 = .ok (.aload_n 0, 1) := by decide +kernel
theorem dX8_init_91 : decode cX8_init 91 = .ok (.getfield 30, 3) := by decide +kernel
theorem dX8_init_94 : decode cX8_init 94 = .ok (.iload_n 1, 1) := by decide +kernel
theorem dX8_init_95 : decode cX8_init 95 = .ok (.new 28, 3) := by decide +kernel
theorem dX8_init_98 : decode cX8_init 98 = .ok (.dup, 1) := by decide +kernel
theorem dX8_init_99 : decode cX8_init 99 = .ok (.invokespecial 38, 3) := by decide +kernel
theorem dX8_init_102 : decode cX8_init 102 = .ok (.aastore, 1) := by decide +kernel
theorem dX8_init_103 : decode cX8_init 103 = .ok (.iinc 1 1, 3) := by decide +kernel
theorem dX8_init_106 : decode cX8_init 106 = .ok (.goto (-22), 3) := by decide +kernel
theorem dX8_init_109 : decode cX8_init 109 = .ok (.return_, 1) := by decide +kernel
theorem dX1_init_0 : decode cX1_init 0 = .ok (.aload_n 0, 1) := by decide +kernel
theorem dX1_init_1 : decode cX1_init 1 = .ok (.invokespecial 3, 3) := by decide +kernel
theorem dX1_init_4 : decode cX1_init 4 = .ok (.aload_n 0, 1) := by decide +kernel
theorem dX1_init_5 : decode cX1_init 5 = .ok (.iconst 5, 1) := by decide +kernel
theorem dX1_init_6 : decode cX1_init 6 = .ok (.anewarray 9, 3) := by decide +kernel
theorem dX1_init_9 : decode cX1_init 9 = .ok (.putfield 11, 3) := by decide +kernel
theorem dX1_init_12 : decode cX1_init 12 = .ok (.iconst 0, 1) := by decide +kernel
theorem dX1_init_13 : decode cX1_init 13 = .ok (.istore_n 1, 1) := by decide +kernel
theorem dX1_init_14 : decode cX1_init 14 = .ok (.iload_n 1, 1) := by decide +kernel
theorem dX1_init_15 : decode cX1_init 15 = .ok (.iconst 5, 1) := by decide +kernel
theorem dX1_init_16 : decode cX1_init 16 = .ok (.if_icmp .ge 22, 3) := by decide +kernel
theorem dX1_init_19 : decode cX1_init 19 = .ok (.aload_n 0, 1) := by decide +kernel
theorem dX1_init_20 : decode cX1_init 20 = .ok (.getfield 11, 3) := by decide +kernel
theorem dX1_init_23 : decode cX1_init 23 = .ok (.iload_n 1, 1) := by decide +kernel
theorem dX1_init_24 : decode cX1_init 24 = .ok (.new 9, 3) := by decide +kernel
theorem dX1_init_27 : decode cX1_init 27 = .ok (.dup, 1) := by decide +kernel
theorem dX1_init_28 : decode cX1_init 28 = .ok (.invokespecial 17, 3) := by decide +kernel
theorem dX1_init_31 : decode cX1_init 31 = .ok (.aastore, 1) := by decide +kernel
theorem dX1_init_32 : decode cX1_init 32 = .ok (.iinc 1 1, 3) := by decide +kernel
theorem dX1_init_35 : decode cX1_init 35 = .ok (.goto (-21), 3) := by decide +kernel
theorem dX1_init_38 : decode cX1_init 38 = .ok (.return_, 1) := by decide +kernel
theorem dX1_dropOldest_0 : decode cX1_dropOldest 0 = .ok (.aload_n 0, 1) := by decide +kernel
theorem dX1_dropOldest_1 : decode cX1_dropOldest 1 = .ok (.getfield 11, 3) := by decide +kernel
theorem dX1_dropOldest_4 : decode cX1_dropOldest 4 = .ok (.iconst 0, 1) := by decide +kernel
theorem dX1_dropOldest_5 : decode cX1_dropOldest 5 = .ok (.aaload, 1) := by decide +kernel
theorem dX1_dropOldest_6 : decode cX1_dropOldest 6 = .ok (.astore_n 1, 1) := by decide +kernel
theorem dX1_dropOldest_7 : decode cX1_dropOldest 7 = .ok (.iconst 1, 1) := by decide +kernel
theorem dX1_dropOldest_8 : decode cX1_dropOldest 8 = .ok (.istore_n 2, 1) := by decide +kernel
theorem dX1_dropOldest_9 : decode cX1_dropOldest 9 = .ok (.iload_n 2, 1) := by decide +kernel
theorem dX1_dropOldest_10 : decode cX1_dropOldest 10 = .ok (.iconst 5, 1) := by decide +kernel
theorem dX1_dropOldest_11 : decode cX1_dropOldest 11 = .ok (.if_icmp .ge 23, 3) := by decide +kernel
theorem dX1_dropOldest_14 : decode cX1_dropOldest 14 = .ok (.aload_n 0, 1) := by decide +kernel
theorem dX1_dropOldest_15 : decode cX1_dropOldest 15 = .ok (.getfield 11, 3) := by decide +kernel
theorem dX1_dropOldest_18 : decode cX1_dropOldest 18 = .ok (.iload_n 2, 1) := by decide +kernel
theorem dX1_dropOldest_19 : decode cX1_dropOldest 19 = .ok (.iconst 1, 1) := by decide +kernel
theorem dX1_dropOldest_20 : decode cX1_dropOldest 20 = .ok (.isub, 1) := by decide +kernel
theorem dX1_dropOldest_21 : decode cX1_dropOldest 21 = .ok (.aload_n 0, 1) := by decide +kernel
theorem dX1_dropOldest_22 : decode cX1_dropOldest 22 = .ok (.getfield 11, 3) := by decide +kernel
theorem dX1_dropOldest_25 : decode cX1_dropOldest 25 = .ok (.iload_n 2, 1) := by decide +kernel
theorem dX1_dropOldest_26 : decode cX1_dropOldest 26 = .ok (.aaload, 1) := by decide +kernel
theorem dX1_dropOldest_27 : decode cX1_dropOldest 27 = .ok (.aastore, 1) := by decide +kernel
theorem dX1_dropOldest_28 : decode cX1_dropOldest 28 = .ok (.iinc 2 1, 3) := by decide +kernel
theorem dX1_dropOldest_31 : decode cX1_dropOldest 31 = .ok (.goto (-22), 3) := by decide +kernel
theorem dX1_dropOldest_34 : decode cX1_dropOldest 34 = .ok (.aload_n 0, 1) := by decide +kernel
theorem dX1_dropOldest_35 : decode cX1_dropOldest 35 = .ok (.getfield 11, 3) := by decide +kernel
theorem dX1_dropOldest_38 : decode cX1_dropOldest 38 = .ok (.iconst 4, 1) := by decide +kernel
theorem dX1_dropOldest_39 : decode cX1_dropOldest 39 = .ok (.aload_n 1, 1) := by decide +kernel
theorem dX1_dropOldest_40 : decode cX1_dropOldest 40 = .ok (.aastore, 1) := by decide +kernel
theorem dX1_dropOldest_41 : decode cX1_dropOldest 41 = .ok (.aload_n 0, 1) := by decide +kernel
theorem dX1_dropOldest_42 : decode cX1_dropOldest 42 = .ok (.dup, 1) := by decide +kernel
theorem dX1_dropOldest_43 : decode cX1_dropOldest 43 = .ok (.getfield 18, 3) := by decide +kernel
theorem dX1_dropOldest_46 : decode cX1_dropOldest 46 = .ok (.iconst 1, 1) := by decide +kernel
theorem dX1_dropOldest_47 : decode cX1_dropOldest 47 = .ok (.isub, 1) := by decide +kernel
theorem dX1_dropOldest_48 : decode cX1_dropOldest 48 = .ok (.putfield 18, 3) := by decide +kernel
theorem dX1_dropOldest_51 : decode cX1_dropOldest 51 = .ok (.return_, 1) := by decide +kernel
theorem dX5_copyFrom_0 : decode cX5_copyFrom 0 = .ok (.aload_n 1, 1) := by decide +kernel
theorem dX5_copyFrom_1 : decode cX5_copyFrom 1 = .ok (.getfield 9, 3) := by decide +kernel
theorem dX5_copyFrom_4 : decode cX5_copyFrom 4 = .ok (.iconst 0, 1) := by decide +kernel
theorem dX5_copyFrom_5 : decode cX5_copyFrom 5 = .ok (.aload_n 0, 1) := by decide +kernel
theorem dX5_copyFrom_6 : decode cX5_copyFrom 6 = .ok (.getfield 9, 3) := by decide +kernel
theorem dX5_copyFrom_9 : decode cX5_copyFrom 9 = .ok (.iconst 0, 1) := by decide +kernel
theorem dX5_copyFrom_10 : decode cX5_copyFrom 10 = .ok (.bipush 96, 2) := by decide +kernel
theorem dX5_copyFrom_12 : decode cX5_copyFrom 12 = .ok (.invokestatic 15, 3) := by decide +kernel
theorem dX5_copyFrom_15 : decode cX5_copyFrom 15 = .ok (.return_, 1) := by decide +kernel
theorem dX7_copyFrom_0 : decode cX7_copyFrom 0 = .ok (.aload_n 0, 1) := by decide +kernel
theorem dX7_copyFrom_1 : decode cX7_copyFrom 1 = .ok (.aload_n 1, 1) := by decide +kernel
theorem dX7_copyFrom_2 : decode cX7_copyFrom 2 = .ok (.getfield 9, 3) := by decide +kernel
theorem dX7_copyFrom_5 : decode cX7_copyFrom 5 = .ok (.putfield 9, 3) := by decide +kernel
theorem dX7_copyFrom_8 : decode cX7_copyFrom 8 = .ok (.aload_n 0, 1) := by decide +kernel
theorem dX7_copyFrom_9 : decode cX7_copyFrom 9 = .ok (.aload_n 1, 1) := by decide +kernel
theorem dX7_copyFrom_10 : decode cX7_copyFrom 10 = .ok (.getfield 15, 3) := by decide +kernel
theorem dX7_copyFrom_13 : decode cX7_copyFrom 13 = .ok (.putfield 15, 3) := by decide +kernel
theorem dX7_copyFrom_16 : decode cX7_copyFrom 16 = .ok (.aload_n 0, 1) := by decide +kernel
theorem dX7_copyFrom_17 : decode cX7_copyFrom 17 = .ok (.aload_n 1, 1) := by decide +kernel
theorem dX7_copyFrom_18 : decode cX7_copyFrom 18 = .ok (.getfield 18, 3) := by decide +kernel
theorem dX7_copyFrom_21 : decode cX7_copyFrom 21 = .ok (.putfield 18, 3) := by decide +kernel
theorem dX7_copyFrom_24 : decode cX7_copyFrom 24 = .ok (.aload_n 0, 1) := by decide +kernel
theorem dX7_copyFrom_25 : decode cX7_copyFrom 25 = .ok (.aload_n 1, 1) := by decide +kernel
theorem dX7_copyFrom_26 : decode cX7_copyFrom 26 = .ok (.getfield 21, 3) := by decide +kernel
theorem dX7_copyFrom_29 : decode cX7_copyFrom 29 = .ok (.putfield 21, 3) := by decide +kernel
theorem dX7_copyFrom_32 : decode cX7_copyFrom 32 = .ok (.aload_n 0, 1) := by decide +kernel
theorem dX7_copyFrom_33 : decode cX7_copyFrom 33 = .ok (.aload_n 1, 1) := by decide +kernel
theorem dX7_copyFrom_34 : decode cX7_copyFrom 34 = .ok (.getfield 24, 3) := by decide +kernel
theorem dX7_copyFrom_37 : decode cX7_copyFrom 37 = .ok (.putfield 24, 3) := by decide +kernel
theorem dX7_copyFrom_40 : decode cX7_copyFrom 40 = .ok (.aload_n 0, 1) := by decide +kernel
theorem dX7_copyFrom_41 : decode cX7_copyFrom 41 = .ok (.aload_n 1, 1) := by decide +kernel
theorem dX7_copyFrom_42 : decode cX7_copyFrom 42 = .ok (.getfield 27, 3) := by decide +kernel
theorem dX7_copyFrom_45 : decode cX7_copyFrom 45 = .ok (.putfield 27, 3) := by decide +kernel
theorem dX7_copyFrom_48 : decode cX7_copyFrom 48 = .ok (.aload_n 0, 1) := by decide +kernel
theorem dX7_copyFrom_49 : decode cX7_copyFrom 49 = .ok (.aload_n 1, 1) := by decide +kernel
theorem dX7_copyFrom_50 : decode cX7_copyFrom 50 = .ok (.getfield 30, 3) := by decide +kernel
theorem dX7_copyFrom_53 : decode cX7_copyFrom 53 = .ok (.putfield 30, 3) := by decide +kernel
theorem dX7_copyFrom_56 : decode cX7_copyFrom 56 = .ok (.aload_n 0, 1) := by decide +kernel
theorem dX7_copyFrom_57 : decode cX7_copyFrom 57 = .ok (.aload_n 1, 1) := by decide +kernel
theorem dX7_copyFrom_58 : decode cX7_copyFrom 58 = .ok (.getfield 33, 3) := by decide +kernel
theorem dX7_copyFrom_61 : decode cX7_copyFrom 61 = .ok (.putfield 33, 3) := by decide +kernel
theorem dX7_copyFrom_64 : decode cX7_copyFrom 64 = .ok (.return_, 1) := by decide +kernel
theorem dX3_write_0 : decode cX3_write 0 = .ok (.aload_n 0, 1) := by decide +kernel
theorem dX3_write_1 : decode cX3_write 1 = .ok (.iload_n 1, 1) := by decide +kernel
theorem dX3_write_2 : decode cX3_write 2 = .ok (.putfield 7, 3) := by decide +kernel
theorem dX3_write_5 : decode cX3_write 5 = .ok (.aload_n 0, 1) := by decide +kernel
theorem dX3_write_6 : decode cX3_write 6 = .ok (.iload_n 2, 1) := by decide +kernel
theorem dX3_write_7 : decode cX3_write 7 = .ok (.putfield 13, 3) := by decide +kernel
theorem dX3_write_10 : decode cX3_write 10 = .ok (.aload_n 0, 1) := by decide +kernel
theorem dX3_write_11 : decode cX3_write 11 = .ok (.iload_n 3, 1) := by decide +kernel
theorem dX3_write_12 : decode cX3_write 12 = .ok (.putfield 16, 3) := by decide +kernel
theorem dX3_write_15 : decode cX3_write 15 = .ok (.aload_n 0, 1) := by decide +kernel
theorem dX3_write_16 : decode cX3_write 16 = .ok (.iload 4, 2) := by decide +kernel
theorem dX3_write_18 : decode cX3_write 18 = .ok (.putfield 19, 3) := by decide +kernel
theorem dX3_write_21 : decode cX3_write 21 = .ok (.return_, 1) := by decide +kernel
theorem dX3_copyFrom_0 : decode cX3_copyFrom 0 = .ok (.aload_n 0, 1) := by decide +kernel
theorem dX3_copyFrom_1 : decode cX3_copyFrom 1 = .ok (.aload_n 1, 1) := by decide +kernel
theorem dX3_copyFrom_2 : decode cX3_copyFrom 2 = .ok (.getfield 7, 3) := by decide +kernel
theorem dX3_copyFrom_5 : decode cX3_copyFrom 5 = .ok (.aload_n 1, 1) := by decide +kernel
theorem dX3_copyFrom_6 : decode cX3_copyFrom 6 = .ok (.getfield 13, 3) := by decide +kernel
theorem dX3_copyFrom_9 : decode cX3_copyFrom 9 = .ok (.aload_n 1, 1) := by decide +kernel
theorem dX3_copyFrom_10 : decode cX3_copyFrom 10 = .ok (.getfield 16, 3) := by decide +kernel
theorem dX3_copyFrom_13 : decode cX3_copyFrom 13 = .ok (.aload_n 1, 1) := by decide +kernel
theorem dX3_copyFrom_14 : decode cX3_copyFrom 14 = .ok (.getfield 19, 3) := by decide +kernel
theorem dX3_copyFrom_17 : decode cX3_copyFrom 17 = .ok (.invokevirtual 22, 3) := by decide +kernel
theorem dX3_copyFrom_20 : decode cX3_copyFrom 20 = .ok (.return_, 1) := by decide +kernel
theorem dX8_copyFrom_0 : decode cX8_copyFrom 0 = .ok (.aload_n 0, 1) := by decide +kernel
theorem dX8_copyFrom_1 : decode cX8_copyFrom 1 = .ok (.getfield 12, 3) := by decide +kernel
theorem dX8_copyFrom_4 : decode cX8_copyFrom 4 = .ok (.aload_n 1, 1) := by decide +kernel
theorem dX8_copyFrom_5 : decode cX8_copyFrom 5 = .ok (.getfield 12, 3) := by decide +kernel
theorem dX8_copyFrom_8 : decode cX8_copyFrom 8 = .ok (.invokevirtual 39, 3) := by decide +kernel
theorem dX8_copyFrom_11 : decode cX8_copyFrom 11 = .ok (.iconst 0, 1) := by decide +kernel
theorem dX8_copyFrom_12 : decode cX8_copyFrom 12 = .ok (.istore_n 2, 1) := by decide +kernel
theorem dX8_copyFrom_13 : decode cX8_copyFrom 13 = .ok (.iload_n 2, 1) := by decide +kernel
theorem dX8_copyFrom_14 : decode cX8_copyFrom 14 = .ok (.iconst 2, 1) := by decide +kernel
theorem dX8_copyFrom_15 : decode cX8_copyFrom 15 = .ok (.if_icmp .ge 33, 3) := by decide +kernel
theorem dX8_copyFrom_18 : decode cX8_copyFrom 18 = .ok (.aload_n 0, 1) := by decide +kernel
theorem dX8_copyFrom_19 : decode cX8_copyFrom 19 = .ok (.getfield 18, 3) := by decide +kernel
theorem dX8_copyFrom_22 : decode cX8_copyFrom 22 = .ok (.iload_n 2, 1) := by decide +kernel
theorem dX8_copyFrom_23 : decode cX8_copyFrom 23 = .ok (.aload_n 1, 1) := by decide +kernel
theorem dX8_copyFrom_24 : decode cX8_copyFrom 24 = .ok (.getfield 18, 3) := by decide +kernel
theorem dX8_copyFrom_27 : decode cX8_copyFrom 27 = .ok (.iload_n 2, 1) := by decide +kernel
theorem dX8_copyFrom_28 : decode cX8_copyFrom 28 = .ok (.iaload, 1) := by decide +kernel
theorem dX8_copyFrom_29 : decode cX8_copyFrom 29 = .ok (.iastore, 1) := by decide +kernel
theorem dX8_copyFrom_30 : decode cX8_copyFrom 30 = .ok (.aload_n 0, 1) := by decide +kernel
theorem dX8_copyFrom_31 : decode cX8_copyFrom 31 = .ok (.getfield 34, 3) := by decide +kernel
theorem dX8_copyFrom_34 : decode cX8_copyFrom 34 = .ok (.iload_n 2, 1) := by decide +kernel
theorem dX8_copyFrom_35 : decode cX8_copyFrom 35 = .ok (.aload_n 1, 1) := by decide +kernel
theorem dX8_copyFrom_36 : decode cX8_copyFrom 36 = .ok (.getfield 34, 3) := by decide +kernel
theorem dX8_copyFrom_39 : decode cX8_copyFrom 39 = .ok (.iload_n 2, 1) := by decide +kernel
theorem dX8_copyFrom_40 : decode cX8_copyFrom 40 = .ok (.iaload, 1) := by decide +kernel
theorem dX8_copyFrom_41 : decode cX8_copyFrom 41 = .ok (.iastore, 1) := by decide +kernel
theorem dX8_copyFrom_42 : decode cX8_copyFrom 42 = .ok (.iinc 2 1, 3) := by decide +kernel
theorem dX8_copyFrom_45 : decode cX8_copyFrom 45 = .ok (.goto (-32), 3) := by decide +kernel
theorem dX8_copyFrom_48 : decode cX8_copyFrom 48 = .ok (.aload_n 0, 1) := by decide +kernel
theorem dX8_copyFrom_49 : decode cX8_copyFrom 49 = .ok (.aload_n 1, 1) := by decide +kernel
theorem dX8_copyFrom_50 : decode cX8_copyFrom 50 = .ok (.getfield 43, 3) := by decide +kernel
theorem dX8_copyFrom_53 : decode cX8_copyFrom 53 = .ok (.putfield 43, 3) := by decide +kernel
theorem dX8_copyFrom_56 : decode cX8_copyFrom 56 = .ok (.iconst 0, 1) := by decide +kernel
theorem dX8_copyFrom_57 : decode cX8_copyFrom 57 = .ok (.istore_n 2, 1) := by decide +kernel
theorem dX8_copyFrom_58 : decode cX8_copyFrom 58 = .ok (.iload_n 2, 1) := by decide +kernel
theorem dX8_copyFrom_59 : decode cX8_copyFrom 59 = .ok (.aload_n 0, 1) := by decide +kernel
theorem dX8_copyFrom_60 : decode cX8_copyFrom 60 = .ok (.getfield 43, 3) := by decide +kernel
theorem dX8_copyFrom_63 : decode cX8_copyFrom 63 = .ok (.if_icmp .ge 24, 3) := by decide +kernel
theorem dX8_copyFrom_66 : decode cX8_copyFrom 66 = .ok (.aload_n 0, 1) := by decide +kernel
theorem dX8_copyFrom_67 : decode cX8_copyFrom 67 = .ok (.getfield 24, 3) := by decide +kernel
theorem dX8_copyFrom_70 : decode cX8_copyFrom 70 = .ok (.iload_n 2, 1) := by decide +kernel
theorem dX8_copyFrom_71 : decode cX8_copyFrom 71 = .ok (.aaload, 1) := by decide +kernel
theorem dX8_copyFrom_72 : decode cX8_copyFrom 72 = .ok (.aload_n 1, 1) := by decide +kernel
theorem dX8_copyFrom_73 : decode cX8_copyFrom 73 = .ok (.getfield 24, 3) := by decide +kernel
theorem dX8_copyFrom_76 : decode cX8_copyFrom 76 = .ok (.iload_n 2, 1) := by decide +kernel
theorem dX8_copyFrom_77 : decode cX8_copyFrom 77 = .ok (.aaload, 1) := by decide +kernel
theorem dX8_copyFrom_78 : decode cX8_copyFrom 78 = .ok (.invokevirtual 47, 3) := by decide +kernel
theorem dX8_copyFrom_81 : decode cX8_copyFrom 81 = .ok (.iinc 2 1, 3) := by decide +kernel
theorem dX8_copyFrom_84 : decode cX8_copyFrom 84 = .ok (.goto (-26), 3) := by decide +kernel
theorem dX8_copyFrom_87 : decode cX8_copyFrom 87 = .ok (.aload_n 0, 1) := by decide +kernel
theorem dX8_copyFrom_88 : decode cX8_copyFrom 88 = .ok (.aload_n 1, 1) := by decide +kernel
theorem dX8_copyFrom_89 : decode cX8_copyFrom 89 = .ok (.getfield 50, 3) := by decide +kernel
theorem dX8_copyFrom_92 : decode cX8_copyFrom 92 = .ok (.putfield 50, 3) := by decide +kernel
theorem dX8_copyFrom_95 : decode cX8_copyFrom 95 = .ok (.iconst 0, 1) := by decide +kernel
theorem dX8_copyFrom_96 : decode cX8_copyFrom 96 = .ok (.istore_n 2, 1) := by decide +kernel
theorem dX8_copyFrom_97 : decode cX8_copyFrom 97 = .ok (.iload_n 2, 1) := by decide +kernel
theorem dX8_copyFrom_98 : decode cX8_copyFrom 98 = .ok (.aload_n 0, 1) := by decide +kernel
theorem dX8_copyFrom_99 : decode cX8_copyFrom 99 = .ok (.getfield 50, 3) := by decide +kernel
theorem dX8_copyFrom_102 : decode cX8_copyFrom 102 = .ok (.if_icmp .ge 24, 3) := by decide +kernel
theorem dX8_copyFrom_105 : decode cX8_copyFrom 105 = .ok (.aload_n 0, 1) := by decide +kernel
theorem dX8_copyFrom_106 : decode cX8_copyFrom 106 = .ok (.getfield 30, 3) := by decide +kernel
theorem dX8_copyFrom_109 : decode cX8_copyFrom 109 = .ok (.iload_n 2, 1) := by decide +kernel
theorem dX8_copyFrom_110 : decode cX8_copyFrom 110 = .ok (.aaload, 1) := by decide +kernel
theorem dX8_copyFrom_111 : decode cX8_copyFrom 111 = .ok (.aload_n 1, 1) := by decide +kernel
theorem dX8_copyFrom_112 : decode cX8_copyFrom 112 = .ok (.getfield 30, 3) := by decide +kernel
theorem dX8_copyFrom_115 : decode cX8_copyFrom 115 = .ok (.iload_n 2, 1) := by decide +kernel
theorem dX8_copyFrom_116 : decode cX8_copyFrom 116 = .ok (.aaload, 1) := by decide +kernel
theorem dX8_copyFrom_117 : decode cX8_copyFrom 117 = .ok (.invokevirtual 53, 3) := by decide +kernel
theorem dX8_copyFrom_120 : decode cX8_copyFrom 120 = .ok (.iinc 2 1, 3) := by decide +kernel
theorem dX8_copyFrom_123 : decode cX8_copyFrom 123 = .ok (.goto (-26), 3) := by decide +kernel
theorem dX8_copyFrom_126 : decode cX8_copyFrom 126 = .ok (.aload_n 0, 1) := by decide +kernel
theorem dX8_copyFrom_127 : decode cX8_copyFrom 127 = .ok (.aload_n 1, 1) := by decide +kernel
theorem dX8_copyFrom_128 : decode cX8_copyFrom 128 = .ok (.getfield 56, 3) := by decide +kernel
theorem dX8_copyFrom_131 : decode cX8_copyFrom 131 = .ok (.putfield 56, 3) := by decide +kernel
theorem dX8_copyFrom_134 : decode cX8_copyFrom 134 = .ok (.aload_n 0, 1) := by decide +kernel
theorem dX8_copyFrom_135 : decode cX8_copyFrom 135 = .ok (.aload_n 1, 1) := by decide +kernel
theorem dX8_copyFrom_136 : decode cX8_copyFrom 136 = .ok (.getfield 59, 3) := by decide +kernel
theorem dX8_copyFrom_139 : decode cX8_copyFrom 139 = .ok (.putfield 59, 3) := by decide +kernel
theorem dX8_copyFrom_142 : decode cX8_copyFrom 142 = .ok (.aload_n 0, 1) := by decide +kernel
theorem dX8_copyFrom_143 : decode cX8_copyFrom 143 = .ok (.aload_n 1, 1) := by decide +kernel
theorem dX8_copyFrom_144 : decode cX8_copyFrom 144 = .ok (.getfield 62, 3) := by decide +kernel
theorem dX8_copyFrom_147 : decode cX8_copyFrom 147 = .ok (.putfield 62, 3) := by decide +kernel
theorem dX8_copyFrom_150 : decode cX8_copyFrom 150 = .ok (.return_, 1) := by decide +kernel
theorem dX1_save_0 : decode cX1_save 0 = .ok (.aload_n 0, 1) := by decide +kernel
theorem dX1_save_1 : decode cX1_save 1 = .ok (.getfield 18, 3) := by decide +kernel
theorem dX1_save_4 : decode cX1_save 4 = .ok (.iconst 5, 1) := by decide +kernel
theorem dX1_save_5 : decode cX1_save 5 = .ok (.if_icmp .ne 7, 3) := by decide +kernel
theorem dX1_save_8 : decode cX1_save 8 = .ok (.aload_n 0, 1) := by decide +kernel
theorem dX1_save_9 : decode cX1_save 9 = .ok (.invokevirtual 22, 3) := by decide +kernel
theorem dX1_save_12 : decode cX1_save 12 = .ok (.aload_n 0, 1) := by decide +kernel
theorem dX1_save_13 : decode cX1_save 13 = .ok (.getfield 11, 3) := by decide +kernel
theorem dX1_save_16 : decode cX1_save 16 = .ok (.aload_n 0, 1) := by decide +kernel
theorem dX1_save_17 : decode cX1_save 17 = .ok (.getfield 18, 3) := by decide +kernel
theorem dX1_save_20 : decode cX1_save 20 = .ok (.aaload, 1) := by decide +kernel
theorem dX1_save_21 : decode cX1_save 21 = .ok (.aload_n 1, 1) := by decide +kernel
theorem dX1_save_22 : decode cX1_save 22 = .ok (.invokevirtual 25, 3) := by decide +kernel
theorem dX1_save_25 : decode cX1_save 25 = .ok (.aload_n 0, 1) := by decide +kernel
theorem dX1_save_26 : decode cX1_save 26 = .ok (.dup, 1) := by decide +kernel
theorem dX1_save_27 : decode cX1_save 27 = .ok (.getfield 18, 3) := by decide +kernel
theorem dX1_save_30 : decode cX1_save 30 = .ok (.iconst 1, 1) := by decide +kernel
theorem dX1_save_31 : decode cX1_save 31 = .ok (.iadd, 1) := by decide +kernel
theorem dX1_save_32 : decode cX1_save 32 = .ok (.putfield 18, 3) := by decide +kernel
theorem dX1_save_35 : decode cX1_save 35 = .ok (.return_, 1) := by decide +kernel
theorem dX2_init_0 : decode cX2_init 0 = .ok (.aload_n 0, 1) := by decide +kernel
theorem dX2_init_1 : decode cX2_init 1 = .ok (.invokespecial 3, 3) := by decide +kernel
theorem dX2_init_4 : decode cX2_init 4 = .ok (.aload_n 0, 1) := by decide +kernel
theorem dX2_init_5 : decode cX2_init 5 = .ok (.new 9, 3) := by decide +kernel
theorem dX2_init_8 : decode cX2_init 8 = .ok (.dup, 1) := by decide +kernel
theorem dX2_init_9 : decode cX2_init 9 = .ok (.invokespecial 11, 3) := by decide +kernel
theorem dX2_init_12 : decode cX2_init 12 = .ok (.putfield 12, 3) := by decide +kernel
theorem dX2_init_15 : decode cX2_init 15 = .ok (.return_, 1) := by decide +kernel
theorem dX8_dropFirstOrders_0 : decode cX8_dropFirstOrders 0 = .ok (.iload_n 1, 1) := by decide +kernel
theorem dX8_dropFirstOrders_1 : decode cX8_dropFirstOrders 1 = .ok (.istore_n 2, 1) := by decide +kernel
theorem dX8_dropFirstOrders_2 : decode cX8_dropFirstOrders 2 = .ok (.iload_n 2, 1) := by decide +kernel
theorem dX8_dropFirstOrders_3 : decode cX8_dropFirstOrders 3 = .ok (.aload_n 0, 1) := by decide +kernel
theorem dX8_dropFirstOrders_4 : decode cX8_dropFirstOrders 4 = .ok (.getfield 50, 3) := by decide +kernel
theorem dX8_dropFirstOrders_7 : decode cX8_dropFirstOrders 7 = .ok (.if_icmp .ge 26, 3) := by decide +kernel
theorem dX8_dropFirstOrders_10 : decode cX8_dropFirstOrders 10 = .ok (.aload_n 0, 1) := by decide +kernel
theorem dX8_dropFirstOrders_11 : decode cX8_dropFirstOrders 11 = .ok (.getfield 30, 3) := by decide +kernel
theorem dX8_dropFirstOrders_14 : decode cX8_dropFirstOrders 14 = .ok (.iload_n 2, 1) := by decide +kernel
theorem dX8_dropFirstOrders_15 : decode cX8_dropFirstOrders 15 = .ok (.iload_n 1, 1) := by decide +kernel
theorem dX8_dropFirstOrders_16 : decode cX8_dropFirstOrders 16 = .ok (.isub, 1) := by decide +kernel
theorem dX8_dropFirstOrders_17 : decode cX8_dropFirstOrders 17 = .ok (.aaload, 1) := by decide +kernel
theorem dX8_dropFirstOrders_18 : decode cX8_dropFirstOrders 18 = .ok (.aload_n 0, 1) := by decide +kernel
theorem dX8_dropFirstOrders_19 : decode cX8_dropFirstOrders 19 = .ok (.getfield 30, 3) := by decide +kernel
theorem dX8_dropFirstOrders_22 : decode cX8_dropFirstOrders 22 = .ok (.iload_n 2, 1) := by decide +kernel
theorem dX8_dropFirstOrders_23 : decode cX8_dropFirstOrders 23 = .ok (.aaload, 1) := by decide +kernel
theorem dX8_dropFirstOrders_24 : decode cX8_dropFirstOrders 24 = .ok (.invokevirtual 53, 3) := by decide +kernel
theorem dX8_dropFirstOrders_27 : decode cX8_dropFirstOrders 27 = .ok (.iinc 2 1, 3) := by decide +kernel
theorem dX8_dropFirstOrders_30 : decode cX8_dropFirstOrders 30 = .ok (.goto (-28), 3) := by decide +kernel
theorem dX8_dropFirstOrders_33 : decode cX8_dropFirstOrders 33 = .ok (.aload_n 0, 1) := by decide +kernel
theorem dX8_dropFirstOrders_34 : decode cX8_dropFirstOrders 34 = .ok (.dup, 1) := by decide +kernel
theorem dX8_dropFirstOrders_35 : decode cX8_dropFirstOrders 35 = .ok (.getfield 50, 3) := by decide +kernel
theorem dX8_dropFirstOrders_38 : decode cX8_dropFirstOrders 38 = .ok (.iload_n 1, 1) := by decide +kernel
theorem dX8_dropFirstOrders_39 : decode cX8_dropFirstOrders 39 = .ok (.isub, 1) := by decide +kernel

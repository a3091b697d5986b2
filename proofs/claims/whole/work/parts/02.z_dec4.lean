theorem dX10_save_78 : decode cX10_save 78 = .ok (.iload_n 1, 1) := by decide +kernel
theorem dX10_save_79 : decode cX10_save 79 = .ok (.iaload, 1) := by decide +kernel
theorem dX10_save_80 : decode cX10_save 80 = .ok (.iastore, 1) := by decide +kernel
theorem dX10_save_81 : decode cX10_save 81 = .ok (.iinc 1 1, 3) := by decide +kernel
theorem dX10_save_84 : decode cX10_save 84 = .ok (.goto (-31), 3) := by decide +kernel
theorem dX10_save_87 : decode cX10_save 87 = .ok (.aload_n 0, 1) := by decide +kernel
theorem dX10_save_88 : decode cX10_save 88 = .ok (.dup, 1) := by decide +kernel
theorem dX10_save_89 : decode cX10_save 89 = .ok (.getfield 68, 3) := by decide +kernel
theorem dX10_save_92 : decode cX10_save 92 = .ok (.iconst 1, 1) := by decide +kernel
theorem dX10_save_93 : decode cX10_save 93 = .ok (.iadd, 1) := by decide +kernel
theorem dX10_save_94 : decode cX10_save 94 = .ok (.putfield 68, 3) := by decide +kernel
theorem dX10_save_97 : decode cX10_save 97 = .ok (.return_, 1) := by decide +kernel
theorem dX10_undo_0 : decode cX10_undo 0 = .ok (.aload_n 0, 1) := by decide +kernel
theorem dX10_undo_1 : decode cX10_undo 1 = .ok (.aload_n 0, 1) := by decide +kernel
theorem dX10_undo_2 : decode cX10_undo 2 = .ok (.getfield 68, 3) := by decide +kernel
theorem dX10_undo_5 : decode cX10_undo 5 = .ok (.ifCond .le 7, 3) := by decide +kernel
theorem dX10_undo_8 : decode cX10_undo 8 = .ok (.iconst 0, 1) := by decide +kernel
theorem dX10_undo_9 : decode cX10_undo 9 = .ok (.goto 4, 3) := by decide +kernel
theorem dX10_undo_12 : decode cX10_undo 12 = .ok (.iconst 1, 1) := by decide +kernel
theorem dX10_undo_13 : decode cX10_undo 13 = .ok (.putfield 31, 3) := by decide +kernel
theorem dX10_undo_16 : decode cX10_undo 16 = .ok (.aload_n 0, 1) := by decide +kernel
theorem dX10_undo_17 : decode cX10_undo 17 = .ok (.getfield 31, 3) := by decide +kernel
theorem dX10_undo_20 : decode cX10_undo 20 = .ok (.ifCond .le 5, 3) := by decide +kernel
theorem dX10_undo_23 : decode cX10_undo 23 = .ok (.iconst 0, 1) := by decide +kernel
theorem dX10_undo_24 : decode cX10_undo 24 = .ok (.ireturn, 1) := by decide +kernel
theorem dX10_undo_25 : decode cX10_undo 25 = .ok (.aload_n 0, 1) := by decide +kernel
theorem dX10_undo_26 : decode cX10_undo 26 = .ok (.dup, 1) := by decide +kernel
theorem dX10_undo_27 : decode cX10_undo 27 = .ok (.getfield 68, 3) := by decide +kernel
theorem dX10_undo_30 : decode cX10_undo 30 = .ok (.iconst 1, 1) := by decide +kernel
theorem dX10_undo_31 : decode cX10_undo 31 = .ok (.isub, 1) := by decide +kernel
theorem dX10_undo_32 : decode cX10_undo 32 = .ok (.putfield 68, 3) := by decide +kernel
theorem dX10_undo_35 : decode cX10_undo 35 = .ok (.iconst 0, 1) := by decide +kernel
theorem dX10_undo_36 : decode cX10_undo 36 = .ok (.istore_n 1, 1) := by decide +kernel
theorem dX10_undo_37 : decode cX10_undo 37 = .ok (.iload_n 1, 1) := by decide +kernel
theorem dX10_undo_38 : decode cX10_undo 38 = .ok (.sipush 321, 3) := by decide +kernel
theorem dX10_undo_41 : decode cX10_undo 41 = .ok (.if_icmp .ge 30, 3) := by decide +kernel
theorem dX10_undo_44 : decode cX10_undo 44 = .ok (.aload_n 0, 1) := by decide +kernel
theorem dX10_undo_45 : decode cX10_undo 45 = .ok (.getfield 7, 3) := by decide +kernel
theorem dX10_undo_48 : decode cX10_undo 48 = .ok (.iload_n 1, 1) := by decide +kernel
theorem dX10_undo_49 : decode cX10_undo 49 = .ok (.aload_n 0, 1) := by decide +kernel
theorem dX10_undo_50 : decode cX10_undo 50 = .ok (.getfield 13, 3) := by decide +kernel
theorem dX10_undo_53 : decode cX10_undo 53 = .ok (.sipush 321, 3) := by decide +kernel
theorem dX10_undo_56 : decode cX10_undo 56 = .ok (.aload_n 0, 1) := by decide +kernel
theorem dX10_undo_57 : decode cX10_undo 57 = .ok (.getfield 68, 3) := by decide +kernel
theorem dX10_undo_60 : decode cX10_undo 60 = .ok (.imul, 1) := by decide +kernel
theorem dX10_undo_61 : decode cX10_undo 61 = .ok (.iload_n 1, 1) := by decide +kernel
theorem dX10_undo_62 : decode cX10_undo 62 = .ok (.iadd, 1) := by decide +kernel
theorem dX10_undo_63 : decode cX10_undo 63 = .ok (.iaload, 1) := by decide +kernel
theorem dX10_undo_64 : decode cX10_undo 64 = .ok (.iastore, 1) := by decide +kernel
theorem dX10_undo_65 : decode cX10_undo 65 = .ok (.iinc 1 1, 3) := by decide +kernel
theorem dX10_undo_68 : decode cX10_undo 68 = .ok (.goto (-31), 3) := by decide +kernel
theorem dX10_undo_71 : decode cX10_undo 71 = .ok (.aload_n 0, 1) := by decide +kernel
theorem dX10_undo_72 : decode cX10_undo 72 = .ok (.getfield 68, 3) := by decide +kernel
theorem dX10_undo_75 : decode cX10_undo 75 = .ok (.ireturn, 1) := by decide +kernel
theorem dX10_keepAside_0 : decode cX10_keepAside 0 = .ok (.iconst 0, 1) := by decide +kernel
theorem dX10_keepAside_1 : decode cX10_keepAside 1 = .ok (.istore_n 1, 1) := by decide +kernel
theorem dX10_keepAside_2 : decode cX10_keepAside 2 = .ok (.iload_n 1, 1) := by decide +kernel
theorem dX10_keepAside_3 : decode cX10_keepAside 3 = .ok (.sipush 321, 3) := by decide +kernel
theorem dX10_keepAside_6 : decode cX10_keepAside 6 = .ok (.if_icmp .ge 21, 3) := by decide +kernel
theorem dX10_keepAside_9 : decode cX10_keepAside 9 = .ok (.aload_n 0, 1) := by decide +kernel
theorem dX10_keepAside_10 : decode cX10_keepAside 10 = .ok (.getfield 25, 3) := by decide +kernel
theorem dX10_keepAside_13 : decode cX10_keepAside 13 = .ok (.iload_n 1, 1) := by decide +kernel
theorem dX10_keepAside_14 : decode cX10_keepAside 14 = .ok (.aload_n 0, 1) := by decide +kernel
theorem dX10_keepAside_15 : decode cX10_keepAside 15 = .ok (.getfield 7, 3) := by decide +kernel
theorem dX10_keepAside_18 : decode cX10_keepAside 18 = .ok (.iload_n 1, 1) := by decide +kernel
theorem dX10_keepAside_19 : decode cX10_keepAside 19 = .ok (.iaload, 1) := by decide +kernel
theorem dX10_keepAside_20 : decode cX10_keepAside 20 = .ok (.iastore, 1) := by decide +kernel
theorem dX10_keepAside_21 : decode cX10_keepAside 21 = .ok (.iinc 1 1, 3) := by decide +kernel
theorem dX10_keepAside_24 : decode cX10_keepAside 24 = .ok (.goto (-22), 3) := by decide +kernel
theorem dX10_keepAside_27 : decode cX10_keepAside 27 = .ok (.return_, 1) := by decide +kernel
theorem dX10_takeBack_0 : decode cX10_takeBack 0 = .ok (.iconst 0, 1) := by decide +kernel
theorem dX10_takeBack_1 : decode cX10_takeBack 1 = .ok (.istore_n 1, 1) := by decide +kernel
theorem dX10_takeBack_2 : decode cX10_takeBack 2 = .ok (.iload_n 1, 1) := by decide +kernel
theorem dX10_takeBack_3 : decode cX10_takeBack 3 = .ok (.sipush 321, 3) := by decide +kernel
theorem dX10_takeBack_6 : decode cX10_takeBack 6 = .ok (.if_icmp .ge 21, 3) := by decide +kernel
theorem dX10_takeBack_9 : decode cX10_takeBack 9 = .ok (.aload_n 0, 1) := by decide +kernel
theorem dX10_takeBack_10 : decode cX10_takeBack 10 = .ok (.getfield 7, 3) := by decide +kernel
theorem dX10_takeBack_13 : decode cX10_takeBack 13 = .ok (.iload_n 1, 1) := by decide +kernel
theorem dX10_takeBack_14 : decode cX10_takeBack 14 = .ok (.aload_n 0, 1) := by decide +kernel
theorem dX10_takeBack_15 : decode cX10_takeBack 15 = .ok (.getfield 25, 3) := by decide +kernel
theorem dX10_takeBack_18 : decode cX10_takeBack 18 = .ok (.iload_n 1, 1) := by decide +kernel
theorem dX10_takeBack_19 : decode cX10_takeBack 19 = .ok (.iaload, 1) := by decide +kernel
theorem dX10_takeBack_20 : decode cX10_takeBack 20 = .ok (.iastore, 1) := by decide +kernel
theorem dX10_takeBack_21 : decode cX10_takeBack 21 = .ok (.iinc 1 1, 3) := by decide +kernel
theorem dX10_takeBack_24 : decode cX10_takeBack 24 = .ok (.goto (-22), 3) := by decide +kernel
theorem dX10_takeBack_27 : decode cX10_takeBack 27 = .ok (.return_, 1) := by decide +kernel
theorem dX10_shape_0 : decode cX10_shape 0 = .ok (.iload_n 1, 1) := by decide +kernel
theorem dX10_shape_1 : decode cX10_shape 1 = .ok (.invokestatic 71, 3) := by decide +kernel
theorem dX10_shape_4 : decode cX10_shape 4 = .ok (.ifCond .eq 10, 3) := by decide +kernel
theorem dX10_shape_7 : decode cX10_shape 7 = .ok (.iload_n 2, 1) := by decide +kernel
theorem dX10_shape_8 : decode cX10_shape 8 = .ok (.invokestatic 71, 3) := by decide +kernel
theorem dX10_shape_11 : decode cX10_shape 11 = .ok (.ifCond .ne 10, 3) := by decide +kernel
theorem dX10_shape_14 : decode cX10_shape 14 = .ok (.aload_n 0, 1) := by decide +kernel
theorem dX10_shape_15 : decode cX10_shape 15 = .ok (.iconst 1, 1) := by decide +kernel
theorem dX10_shape_16 : decode cX10_shape 16 = .ok (.putfield 31, 3) := by decide +kernel
theorem dX10_shape_19 : decode cX10_shape 19 = .ok (.iconst 0, 1) := by decide +kernel
theorem dX10_shape_20 : decode cX10_shape 20 = .ok (.ireturn, 1) := by decide +kernel
theorem dX10_shape_21 : decode cX10_shape 21 = .ok (.iload_n 1, 1) := by decide +kernel
theorem dX10_shape_22 : decode cX10_shape 22 = .ok (.bipush 12, 2) := by decide +kernel
theorem dX10_shape_24 : decode cX10_shape 24 = .ok (.irem, 1) := by decide +kernel
theorem dX10_shape_25 : decode cX10_shape 25 = .ok (.iload_n 2, 1) := by decide +kernel
theorem dX10_shape_26 : decode cX10_shape 26 = .ok (.bipush 12, 2) := by decide +kernel
theorem dX10_shape_28 : decode cX10_shape 28 = .ok (.irem, 1) := by decide +kernel
theorem dX10_shape_29 : decode cX10_shape 29 = .ok (.if_icmp .gt 18, 3) := by decide +kernel
theorem dX10_shape_32 : decode cX10_shape 32 = .ok (.iload_n 1, 1) := by decide +kernel
theorem dX10_shape_33 : decode cX10_shape 33 = .ok (.bipush 12, 2) := by decide +kernel
theorem dX10_shape_35 : decode cX10_shape 35 = .ok (.idiv, 1) := by decide +kernel
theorem dX10_shape_36 : decode cX10_shape 36 = .ok (.iload_n 2, 1) := by decide +kernel
theorem dX10_shape_37 : decode cX10_shape 37 = .ok (.bipush 12, 2) := by decide +kernel
theorem dX10_shape_39 : decode cX10_shape 39 = .ok (.idiv, 1) := by decide +kernel
theorem dX10_shape_40 : decode cX10_shape 40 = .ok (.if_icmp .gt 7, 3) := by decide +kernel
theorem dX10_shape_43 : decode cX10_shape 43 = .ok (.iconst 1, 1) := by decide +kernel
theorem dX10_shape_44 : decode cX10_shape 44 = .ok (.goto 4, 3) := by decide +kernel
theorem dX10_shape_47 : decode cX10_shape 47 = .ok (.iconst 0, 1) := by decide +kernel
theorem dX10_shape_48 : decode cX10_shape 48 = .ok (.istore 4, 2) := by decide +kernel
theorem dX10_shape_50 : decode cX10_shape 50 = .ok (.aload_n 0, 1) := by decide +kernel
theorem dX10_shape_51 : decode cX10_shape 51 = .ok (.iload 4, 2) := by decide +kernel
theorem dX10_shape_53 : decode cX10_shape 53 = .ok (.ifCond .eq 17, 3) := by decide +kernel
theorem dX10_shape_56 : decode cX10_shape 56 = .ok (.iload_n 3, 1) := by decide +kernel
theorem dX10_shape_57 : decode cX10_shape 57 = .ok (.iconst 0, 1) := by decide +kernel
theorem dX10_shape_58 : decode cX10_shape 58 = .ok (.bipush 9, 2) := by decide +kernel
theorem dX10_shape_60 : decode cX10_shape 60 = .ok (.invokestatic 35, 3) := by decide +kernel
theorem dX10_shape_63 : decode cX10_shape 63 = .ok (.ifCond .eq 7, 3) := by decide +kernel
theorem dX10_shape_66 : decode cX10_shape 66 = .ok (.iconst 0, 1) := by decide +kernel
theorem dX10_shape_67 : decode cX10_shape 67 = .ok (.goto 4, 3) := by decide +kernel
theorem dX10_shape_70 : decode cX10_shape 70 = .ok (.iconst 2, 1) := by decide +kernel
theorem dX10_shape_71 : decode cX10_shape 71 = .ok (.putfield 31, 3) := by decide +kernel
theorem dX10_shape_74 : decode cX10_shape 74 = .ok (.aload_n 0, 1) := by decide +kernel
theorem dX10_shape_75 : decode cX10_shape 75 = .ok (.getfield 31, 3) := by decide +kernel
theorem dX10_shape_78 : decode cX10_shape 78 = .ok (.ifCond .le 5, 3) := by decide +kernel
theorem dX10_shape_81 : decode cX10_shape 81 = .ok (.iconst 0, 1) := by decide +kernel
theorem dX10_shape_82 : decode cX10_shape 82 = .ok (.ireturn, 1) := by decide +kernel
theorem dX10_shape_83 : decode cX10_shape 83 = .ok (.aload_n 0, 1) := by decide +kernel
theorem dX10_shape_84 : decode cX10_shape 84 = .ok (.invokevirtual 74, 3) := by decide +kernel
theorem dX10_shape_87 : decode cX10_shape 87 = .ok (.iconst 0, 1) := by decide +kernel
theorem dX10_shape_88 : decode cX10_shape 88 = .ok (.istore 5, 2) := by decide +kernel
theorem dX10_shape_90 : decode cX10_shape 90 = .ok (.iload_n 1, 1) := by decide +kernel
theorem dX10_shape_91 : decode cX10_shape 91 = .ok (.istore 6, 2) := by decide +kernel
theorem dX10_shape_93 : decode cX10_shape 93 = .ok (.iload 6, 2) := by decide +kernel
theorem dX10_shape_95 : decode cX10_shape 95 = .ok (.iload_n 2, 1) := by decide +kernel
theorem dX10_shape_96 : decode cX10_shape 96 = .ok (.if_icmp .gt 57, 3) := by decide +kernel
theorem dX10_shape_99 : decode cX10_shape 99 = .ok (.iload 6, 2) := by decide +kernel
theorem dX10_shape_101 : decode cX10_shape 101 = .ok (.bipush 12, 2) := by decide +kernel
theorem dX10_shape_103 : decode cX10_shape 103 = .ok (.irem, 1) := by decide +kernel
theorem dX10_shape_104 : decode cX10_shape 104 = .ok (.iload_n 1, 1) := by decide +kernel
theorem dX10_shape_105 : decode cX10_shape 105 = .ok (.bipush 12, 2) := by decide +kernel
theorem dX10_shape_107 : decode cX10_shape 107 = .ok (.irem, 1) := by decide +kernel
theorem dX10_shape_108 : decode cX10_shape 108 = .ok (.iload_n 2, 1) := by decide +kernel
theorem dX10_shape_109 : decode cX10_shape 109 = .ok (.bipush 12, 2) := by decide +kernel
theorem dX10_shape_111 : decode cX10_shape 111 = .ok (.irem, 1) := by decide +kernel
theorem dX10_shape_112 : decode cX10_shape 112 = .ok (.invokestatic 35, 3) := by decide +kernel
theorem dX10_shape_115 : decode cX10_shape 115 = .ok (.ifCond .eq 32, 3) := by decide +kernel
theorem dX10_shape_118 : decode cX10_shape 118 = .ok (.iload 5, 2) := by decide +kernel
theorem dX10_shape_120 : decode cX10_shape 120 = .ok (.aload_n 0, 1) := by decide +kernel
theorem dX10_shape_121 : decode cX10_shape 121 = .ok (.getfield 7, 3) := by decide +kernel
theorem dX10_shape_124 : decode cX10_shape 124 = .ok (.iload 6, 2) := by decide +kernel
theorem dX10_shape_126 : decode cX10_shape 126 = .ok (.iaload, 1) := by decide +kernel
theorem dX10_shape_127 : decode cX10_shape 127 = .ok (.iload_n 3, 1) := by decide +kernel
theorem dX10_shape_128 : decode cX10_shape 128 = .ok (.if_icmp .ne 7, 3) := by decide +kernel
theorem dX10_shape_131 : decode cX10_shape 131 = .ok (.iconst 0, 1) := by decide +kernel
theorem dX10_shape_132 : decode cX10_shape 132 = .ok (.goto 4, 3) := by decide +kernel
theorem dX10_shape_135 : decode cX10_shape 135 = .ok (.iconst 1, 1) := by decide +kernel
theorem dX10_shape_136 : decode cX10_shape 136 = .ok (.iadd, 1) := by decide +kernel
theorem dX10_shape_137 : decode cX10_shape 137 = .ok (.istore 5, 2) := by decide +kernel
theorem dX10_shape_139 : decode cX10_shape 139 = .ok (.aload_n 0, 1) := by decide +kernel
theorem dX10_shape_140 : decode cX10_shape 140 = .ok (.getfield 7, 3) := by decide +kernel
theorem dX10_shape_143 : decode cX10_shape 143 = .ok (.iload 6, 2) := by decide +kernel
theorem dX10_shape_145 : decode cX10_shape 145 = .ok (.iload_n 3, 1) := by decide +kernel
theorem dX10_shape_146 : decode cX10_shape 146 = .ok (.iastore, 1) := by decide +kernel
theorem dX10_shape_147 : decode cX10_shape 147 = .ok (.iinc 6 1, 3) := by decide +kernel
theorem dX10_shape_150 : decode cX10_shape 150 = .ok (.goto (-57), 3) := by decide +kernel
theorem dX10_shape_153 : decode cX10_shape 153 = .ok (.iload 5, 2) := by decide +kernel
theorem dX10_shape_155 : decode cX10_shape 155 = .ok (.ireturn, 1) := by decide +kernel
theorem dX10_moveGeneral_0 : decode cX10_moveGeneral 0 = .ok (.aload_n 0, 1) := by decide +kernel
theorem dX10_moveGeneral_1 : decode cX10_moveGeneral 1 = .ok (.iload_n 1, 1) := by decide +kernel
theorem dX10_moveGeneral_2 : decode cX10_moveGeneral 2 = .ok (.invokestatic 77, 3) := by decide +kernel
theorem dX10_moveGeneral_5 : decode cX10_moveGeneral 5 = .ok (.ifCond .eq 14, 3) := by decide +kernel
theorem dX10_moveGeneral_8 : decode cX10_moveGeneral 8 = .ok (.iload_n 2, 1) := by decide +kernel
theorem dX10_moveGeneral_9 : decode cX10_moveGeneral 9 = .ok (.invokestatic 71, 3) := by decide +kernel
theorem dX10_moveGeneral_12 : decode cX10_moveGeneral 12 = .ok (.ifCond .eq 7, 3) := by decide +kernel
theorem dX10_moveGeneral_15 : decode cX10_moveGeneral 15 = .ok (.iconst 0, 1) := by decide +kernel
theorem dX10_moveGeneral_16 : decode cX10_moveGeneral 16 = .ok (.goto 4, 3) := by decide +kernel
theorem dX10_moveGeneral_19 : decode cX10_moveGeneral 19 = .ok (.iconst 1, 1) := by decide +kernel
theorem dX10_moveGeneral_20 : decode cX10_moveGeneral 20 = .ok (.putfield 31, 3) := by decide +kernel
theorem dX10_moveGeneral_23 : decode cX10_moveGeneral 23 = .ok (.aload_n 0, 1) := by decide +kernel
theorem dX10_moveGeneral_24 : decode cX10_moveGeneral 24 = .ok (.getfield 31, 3) := by decide +kernel
theorem dX10_moveGeneral_27 : decode cX10_moveGeneral 27 = .ok (.ifCond .le 5, 3) := by decide +kernel
theorem dX10_moveGeneral_30 : decode cX10_moveGeneral 30 = .ok (.iconst 0, 1) := by decide +kernel
theorem dX10_moveGeneral_31 : decode cX10_moveGeneral 31 = .ok (.ireturn, 1) := by decide +kernel
theorem dX10_moveGeneral_32 : decode cX10_moveGeneral 32 = .ok (.aload_n 0, 1) := by decide +kernel
theorem dX10_moveGeneral_33 : decode cX10_moveGeneral 33 = .ok (.invokevirtual 74, 3) := by decide +kernel
theorem dX10_moveGeneral_36 : decode cX10_moveGeneral 36 = .ok (.aload_n 0, 1) := by decide +kernel
theorem dX10_moveGeneral_37 : decode cX10_moveGeneral 37 = .ok (.getfield 7, 3) := by decide +kernel
theorem dX10_moveGeneral_40 : decode cX10_moveGeneral 40 = .ok (.bipush 96, 2) := by decide +kernel
theorem dX10_moveGeneral_42 : decode cX10_moveGeneral 42 = .ok (.iload_n 1, 1) := by decide +kernel
theorem dX10_moveGeneral_43 : decode cX10_moveGeneral 43 = .ok (.iadd, 1) := by decide +kernel
theorem dX10_moveGeneral_44 : decode cX10_moveGeneral 44 = .ok (.iaload, 1) := by decide +kernel
theorem dX10_moveGeneral_45 : decode cX10_moveGeneral 45 = .ok (.istore_n 3, 1) := by decide +kernel
theorem dX10_moveGeneral_46 : decode cX10_moveGeneral 46 = .ok (.aload_n 0, 1) := by decide +kernel
theorem dX10_moveGeneral_47 : decode cX10_moveGeneral 47 = .ok (.getfield 7, 3) := by decide +kernel
theorem dX10_moveGeneral_50 : decode cX10_moveGeneral 50 = .ok (.bipush 96, 2) := by decide +kernel
theorem dX10_moveGeneral_52 : decode cX10_moveGeneral 52 = .ok (.iload_n 1, 1) := by decide +kernel
theorem dX10_moveGeneral_53 : decode cX10_moveGeneral 53 = .ok (.iadd, 1) := by decide +kernel
theorem dX10_moveGeneral_54 : decode cX10_moveGeneral 54 = .ok (.iload_n 2, 1) := by decide +kernel
theorem dX10_moveGeneral_55 : decode cX10_moveGeneral 55 = .ok (.iastore, 1) := by decide +kernel
theorem dX10_moveGeneral_56 : decode cX10_moveGeneral 56 = .ok (.iload_n 3, 1) := by decide +kernel
theorem dX10_moveGeneral_57 : decode cX10_moveGeneral 57 = .ok (.ireturn, 1) := by decide +kernel
theorem dX10_addTroop_0 : decode cX10_addTroop 0 = .ok (.iload_n 1, 1) := by decide +kernel
theorem dX10_addTroop_1 : decode cX10_addTroop 1 = .ok (.invokestatic 77, 3) := by decide +kernel
theorem dX10_addTroop_4 : decode cX10_addTroop 4 = .ok (.ifCond .eq 10, 3) := by decide +kernel
theorem dX10_addTroop_7 : decode cX10_addTroop 7 = .ok (.iload_n 2, 1) := by decide +kernel
theorem dX10_addTroop_8 : decode cX10_addTroop 8 = .ok (.invokestatic 71, 3) := by decide +kernel
theorem dX10_addTroop_11 : decode cX10_addTroop 11 = .ok (.ifCond .ne 10, 3) := by decide +kernel
theorem dX10_addTroop_14 : decode cX10_addTroop 14 = .ok (.aload_n 0, 1) := by decide +kernel
theorem dX10_addTroop_15 : decode cX10_addTroop 15 = .ok (.iconst 1, 1) := by decide +kernel
theorem dX10_addTroop_16 : decode cX10_addTroop 16 = .ok (.putfield 31, 3) := by decide +kernel
theorem dX10_addTroop_19 : decode cX10_addTroop 19 = .ok (.iconst 0, 1) := by decide +kernel
theorem dX10_addTroop_20 : decode cX10_addTroop 20 = .ok (.ireturn, 1) := by decide +kernel
theorem dX10_addTroop_21 : decode cX10_addTroop 21 = .ok (.aload_n 0, 1) := by decide +kernel
theorem dX10_addTroop_22 : decode cX10_addTroop 22 = .ok (.iload_n 3, 1) := by decide +kernel
theorem dX10_addTroop_23 : decode cX10_addTroop 23 = .ok (.iconst 1, 1) := by decide +kernel
theorem dX10_addTroop_24 : decode cX10_addTroop 24 = .ok (.bipush 20, 2) := by decide +kernel
theorem dX10_addTroop_26 : decode cX10_addTroop 26 = .ok (.invokestatic 35, 3) := by decide +kernel
theorem dX10_addTroop_29 : decode cX10_addTroop 29 = .ok (.ifCond .ne 7, 3) := by decide +kernel
theorem dX10_addTroop_32 : decode cX10_addTroop 32 = .ok (.iconst 2, 1) := by decide +kernel
theorem dX10_addTroop_33 : decode cX10_addTroop 33 = .ok (.goto 29, 3) := by decide +kernel
theorem dX10_addTroop_36 : decode cX10_addTroop 36 = .ok (.aload_n 0, 1) := by decide +kernel
theorem dX10_addTroop_37 : decode cX10_addTroop 37 = .ok (.getfield 7, 3) := by decide +kernel
theorem dX10_addTroop_40 : decode cX10_addTroop 40 = .ok (.bipush 98, 2) := by decide +kernel
theorem dX10_addTroop_42 : decode cX10_addTroop 42 = .ok (.iaload, 1) := by decide +kernel
theorem dX10_addTroop_43 : decode cX10_addTroop 43 = .ok (.bipush 12, 2) := by decide +kernel
theorem dX10_addTroop_45 : decode cX10_addTroop 45 = .ok (.if_icmp .eq 12, 3) := by decide +kernel
theorem dX10_addTroop_48 : decode cX10_addTroop 48 = .ok (.aload_n 0, 1) := by decide +kernel
theorem dX10_addTroop_49 : decode cX10_addTroop 49 = .ok (.iload_n 2, 1) := by decide +kernel
theorem dX10_addTroop_50 : decode cX10_addTroop 50 = .ok (.invokevirtual 57, 3) := by decide +kernel
theorem dX10_addTroop_53 : decode cX10_addTroop 53 = .ok (.iconst (-1), 1) := by decide +kernel
theorem dX10_addTroop_54 : decode cX10_addTroop 54 = .ok (.if_icmp .eq 7, 3) := by decide +kernel
theorem dX10_addTroop_57 : decode cX10_addTroop 57 = .ok (.iconst 3, 1) := by decide +kernel
theorem dX10_addTroop_58 : decode cX10_addTroop 58 = .ok (.goto 4, 3) := by decide +kernel
theorem dX10_addTroop_61 : decode cX10_addTroop 61 = .ok (.iconst 0, 1) := by decide +kernel
theorem dX10_addTroop_62 : decode cX10_addTroop 62 = .ok (.putfield 31, 3) := by decide +kernel
theorem dX10_addTroop_65 : decode cX10_addTroop 65 = .ok (.aload_n 0, 1) := by decide +kernel
theorem dX10_addTroop_66 : decode cX10_addTroop 66 = .ok (.getfield 31, 3) := by decide +kernel
theorem dX10_addTroop_69 : decode cX10_addTroop 69 = .ok (.ifCond .le 5, 3) := by decide +kernel
theorem dX10_addTroop_72 : decode cX10_addTroop 72 = .ok (.iconst 0, 1) := by decide +kernel
theorem dX10_addTroop_73 : decode cX10_addTroop 73 = .ok (.ireturn, 1) := by decide +kernel
theorem dX10_addTroop_74 : decode cX10_addTroop 74 = .ok (.aload_n 0, 1) := by decide +kernel
theorem dX10_addTroop_75 : decode cX10_addTroop 75 = .ok (.invokevirtual 74, 3) := by decide +kernel
theorem dX10_addTroop_78 : decode cX10_addTroop 78 = .ok (.aload_n 0, 1) := by decide +kernel
theorem dX10_addTroop_79 : decode cX10_addTroop 79 = .ok (.getfield 7, 3) := by decide +kernel
theorem dX10_addTroop_82 : decode cX10_addTroop 82 = .ok (.bipush 98, 2) := by decide +kernel
theorem dX10_addTroop_84 : decode cX10_addTroop 84 = .ok (.iaload, 1) := by decide +kernel
theorem dX10_addTroop_85 : decode cX10_addTroop 85 = .ok (.istore 4, 2) := by decide +kernel
theorem dX10_addTroop_87 : decode cX10_addTroop 87 = .ok (.iconst 0, 1) := by decide +kernel
theorem dX10_addTroop_88 : decode cX10_addTroop 88 = .ok (.istore 5, 2) := by decide +kernel
theorem dX10_addTroop_90 : decode cX10_addTroop 90 = .ok (.iload 5, 2) := by decide +kernel
theorem dX10_addTroop_92 : decode cX10_addTroop 92 = .ok (.bipush 8, 2) := by decide +kernel
theorem dX10_addTroop_94 : decode cX10_addTroop 94 = .ok (.if_icmp .ge 18, 3) := by decide +kernel
theorem dX10_addTroop_97 : decode cX10_addTroop 97 = .ok (.aload_n 0, 1) := by decide +kernel
theorem dX10_addTroop_98 : decode cX10_addTroop 98 = .ok (.iload 4, 2) := by decide +kernel
theorem dX10_addTroop_100 : decode cX10_addTroop 100 = .ok (.iload 5, 2) := by decide +kernel
theorem dX10_addTroop_102 : decode cX10_addTroop 102 = .ok (.iconst 0, 1) := by decide +kernel
theorem dX10_addTroop_103 : decode cX10_addTroop 103 = .ok (.invokevirtual 80, 3) := by decide +kernel
theorem dX10_addTroop_106 : decode cX10_addTroop 106 = .ok (.iinc 5 1, 3) := by decide +kernel
theorem dX10_addTroop_109 : decode cX10_addTroop 109 = .ok (.goto (-19), 3) := by decide +kernel
theorem dX10_addTroop_112 : decode cX10_addTroop 112 = .ok (.aload_n 0, 1) := by decide +kernel
theorem dX10_addTroop_113 : decode cX10_addTroop 113 = .ok (.iload 4, 2) := by decide +kernel
theorem dX10_addTroop_115 : decode cX10_addTroop 115 = .ok (.iconst 0, 1) := by decide +kernel
theorem dX10_addTroop_116 : decode cX10_addTroop 116 = .ok (.iload_n 1, 1) := by decide +kernel
theorem dX10_addTroop_117 : decode cX10_addTroop 117 = .ok (.invokevirtual 80, 3) := by decide +kernel
theorem dX10_addTroop_120 : decode cX10_addTroop 120 = .ok (.aload_n 0, 1) := by decide +kernel
theorem dX10_addTroop_121 : decode cX10_addTroop 121 = .ok (.iload 4, 2) := by decide +kernel
theorem dX10_addTroop_123 : decode cX10_addTroop 123 = .ok (.iconst 1, 1) := by decide +kernel
theorem dX10_addTroop_124 : decode cX10_addTroop 124 = .ok (.iload_n 2, 1) := by decide +kernel
theorem dX10_addTroop_125 : decode cX10_addTroop 125 = .ok (.invokevirtual 80, 3) := by decide +kernel
theorem dX10_addTroop_128 : decode cX10_addTroop 128 = .ok (.aload_n 0, 1) := by decide +kernel
theorem dX10_addTroop_129 : decode cX10_addTroop 129 = .ok (.iload 4, 2) := by decide +kernel
theorem dX10_addTroop_131 : decode cX10_addTroop 131 = .ok (.iconst 2, 1) := by decide +kernel
theorem dX10_addTroop_132 : decode cX10_addTroop 132 = .ok (.iload_n 3, 1) := by decide +kernel
theorem dX10_addTroop_133 : decode cX10_addTroop 133 = .ok (.invokevirtual 80, 3) := by decide +kernel
theorem dX10_addTroop_136 : decode cX10_addTroop 136 = .ok (.aload_n 0, 1) := by decide +kernel
theorem dX10_addTroop_137 : decode cX10_addTroop 137 = .ok (.iload 4, 2) := by decide +kernel
theorem dX10_addTroop_139 : decode cX10_addTroop 139 = .ok (.iconst 3, 1) := by decide +kernel
theorem dX10_addTroop_140 : decode cX10_addTroop 140 = .ok (.iload_n 2, 1) := by decide +kernel
theorem dX10_addTroop_141 : decode cX10_addTroop 141 = .ok (.invokevirtual 80, 3) := by decide +kernel
theorem dX10_addTroop_144 : decode cX10_addTroop 144 = .ok (.aload_n 0, 1) := by decide +kernel
theorem dX10_addTroop_145 : decode cX10_addTroop 145 = .ok (.iload 4, 2) := by decide +kernel
theorem dX10_addTroop_147 : decode cX10_addTroop 147 = .ok (.iconst 5, 1) := by decide +kernel
theorem dX10_addTroop_148 : decode cX10_addTroop 148 = .ok (.iload_n 3, 1) := by decide +kernel
theorem dX10_addTroop_149 : decode cX10_addTroop 149 = .ok (.invokevirtual 80, 3) := by decide +kernel
theorem dX10_addTroop_152 : decode cX10_addTroop 152 = .ok (.aload_n 0, 1) := by decide +kernel
theorem dX10_addTroop_153 : decode cX10_addTroop 153 = .ok (.getfield 7, 3) := by decide +kernel
theorem dX10_addTroop_156 : decode cX10_addTroop 156 = .ok (.bipush 98, 2) := by decide +kernel
theorem dX10_addTroop_158 : decode cX10_addTroop 158 = .ok (.dup2, 1) := by decide +kernel
theorem dX10_addTroop_159 : decode cX10_addTroop 159 = .ok (.iaload, 1) := by decide +kernel
theorem dX10_addTroop_160 : decode cX10_addTroop 160 = .ok (.iconst 1, 1) := by decide +kernel
theorem dX10_addTroop_161 : decode cX10_addTroop 161 = .ok (.iadd, 1) := by decide +kernel
theorem dX10_addTroop_162 : decode cX10_addTroop 162 = .ok (.iastore, 1) := by decide +kernel
theorem dX10_addTroop_163 : decode cX10_addTroop 163 = .ok (.iload 4, 2) := by decide +kernel
theorem dX10_addTroop_165 : decode cX10_addTroop 165 = .ok (.ireturn, 1) := by decide +kernel
theorem dX10_orderTime_0 : decode cX10_orderTime 0 = .ok (.aload_n 0, 1) := by decide +kernel
theorem dX10_orderTime_1 : decode cX10_orderTime 1 = .ok (.iload_n 2, 1) := by decide +kernel
theorem dX10_orderTime_2 : decode cX10_orderTime 2 = .ok (.iconst 1, 1) := by decide +kernel
theorem dX10_orderTime_3 : decode cX10_orderTime 3 = .ok (.invokevirtual 39, 3) := by decide +kernel
theorem dX10_orderTime_6 : decode cX10_orderTime 6 = .ok (.istore_n 3, 1) := by decide +kernel
theorem dX10_orderTime_7 : decode cX10_orderTime 7 = .ok (.aload_n 0, 1) := by decide +kernel
theorem dX10_orderTime_8 : decode cX10_orderTime 8 = .ok (.iload_n 1, 1) := by decide +kernel
theorem dX10_orderTime_9 : decode cX10_orderTime 9 = .ok (.iload_n 3, 1) := by decide +kernel
theorem dX10_orderTime_10 : decode cX10_orderTime 10 = .ok (.invokevirtual 64, 3) := by decide +kernel
theorem dX10_orderTime_13 : decode cX10_orderTime 13 = .ok (.ifCond .eq 5, 3) := by decide +kernel
theorem dX10_orderTime_16 : decode cX10_orderTime 16 = .ok (.iconst 1, 1) := by decide +kernel
theorem dX10_orderTime_17 : decode cX10_orderTime 17 = .ok (.ireturn, 1) := by decide +kernel
theorem dX10_orderTime_18 : decode cX10_orderTime 18 = .ok (.aload_n 0, 1) := by decide +kernel
theorem dX10_orderTime_19 : decode cX10_orderTime 19 = .ok (.iload_n 1, 1) := by decide +kernel
theorem dX10_orderTime_20 : decode cX10_orderTime 20 = .ok (.iload_n 3, 1) := by decide +kernel
theorem dX10_orderTime_21 : decode cX10_orderTime 21 = .ok (.invokevirtual 84, 3) := by decide +kernel
theorem dX10_orderTime_24 : decode cX10_orderTime 24 = .ok (.istore 4, 2) := by decide +kernel
theorem dX10_orderTime_26 : decode cX10_orderTime 26 = .ok (.iload 4, 2) := by decide +kernel
theorem dX10_orderTime_28 : decode cX10_orderTime 28 = .ok (.iconst (-1), 1) := by decide +kernel
theorem dX10_orderTime_29 : decode cX10_orderTime 29 = .ok (.if_icmp .ne 7, 3) := by decide +kernel
theorem dX10_orderTime_32 : decode cX10_orderTime 32 = .ok (.iconst (-1), 1) := by decide +kernel
theorem dX10_orderTime_33 : decode cX10_orderTime 33 = .ok (.goto 9, 3) := by decide +kernel
theorem dX10_orderTime_36 : decode cX10_orderTime 36 = .ok (.iload 4, 2) := by decide +kernel
theorem dX10_orderTime_38 : decode cX10_orderTime 38 = .ok (.iconst 2, 1) := by decide +kernel
theorem dX10_orderTime_39 : decode cX10_orderTime 39 = .ok (.iadd, 1) := by decide +kernel
theorem dX10_orderTime_40 : decode cX10_orderTime 40 = .ok (.iconst 3, 1) := by decide +kernel
theorem dX10_orderTime_41 : decode cX10_orderTime 41 = .ok (.idiv, 1) := by decide +kernel
theorem dX10_orderTime_42 : decode cX10_orderTime 42 = .ok (.ireturn, 1) := by decide +kernel
theorem dX10_whyNot_0 : decode cX10_whyNot 0 = .ok (.aload_n 0, 1) := by decide +kernel
theorem dX10_whyNot_1 : decode cX10_whyNot 1 = .ok (.iload_n 1, 1) := by decide +kernel
theorem dX10_whyNot_2 : decode cX10_whyNot 2 = .ok (.invokevirtual 50, 3) := by decide +kernel
theorem dX10_whyNot_5 : decode cX10_whyNot 5 = .ok (.ifCond .eq 5, 3) := by decide +kernel
theorem dX10_whyNot_8 : decode cX10_whyNot 8 = .ok (.iconst 1, 1) := by decide +kernel
theorem dX10_whyNot_9 : decode cX10_whyNot 9 = .ok (.ireturn, 1) := by decide +kernel
theorem dX10_whyNot_10 : decode cX10_whyNot 10 = .ok (.aload_n 0, 1) := by decide +kernel
theorem dX10_whyNot_11 : decode cX10_whyNot 11 = .ok (.aload_n 0, 1) := by decide +kernel
theorem dX10_whyNot_12 : decode cX10_whyNot 12 = .ok (.getfield 7, 3) := by decide +kernel
theorem dX10_whyNot_15 : decode cX10_whyNot 15 = .ok (.bipush 96, 2) := by decide +kernel
theorem dX10_whyNot_17 : decode cX10_whyNot 17 = .ok (.aload_n 0, 1) := by decide +kernel
theorem dX10_whyNot_18 : decode cX10_whyNot 18 = .ok (.iload_n 1, 1) := by decide +kernel
theorem dX10_whyNot_19 : decode cX10_whyNot 19 = .ok (.iconst 0, 1) := by decide +kernel
theorem dX10_whyNot_20 : decode cX10_whyNot 20 = .ok (.invokevirtual 39, 3) := by decide +kernel
theorem dX10_whyNot_23 : decode cX10_whyNot 23 = .ok (.iadd, 1) := by decide +kernel
theorem dX10_whyNot_24 : decode cX10_whyNot 24 = .ok (.iaload, 1) := by decide +kernel
theorem dX10_whyNot_25 : decode cX10_whyNot 25 = .ok (.iload_n 1, 1) := by decide +kernel
theorem dX10_whyNot_26 : decode cX10_whyNot 26 = .ok (.invokevirtual 87, 3) := by decide +kernel
theorem dX10_whyNot_29 : decode cX10_whyNot 29 = .ok (.iconst (-1), 1) := by decide +kernel
theorem dX10_whyNot_30 : decode cX10_whyNot 30 = .ok (.if_icmp .ne 7, 3) := by decide +kernel
theorem dX10_whyNot_33 : decode cX10_whyNot 33 = .ok (.iconst 2, 1) := by decide +kernel
theorem dX10_whyNot_34 : decode cX10_whyNot 34 = .ok (.goto 21, 3) := by decide +kernel
theorem dX10_whyNot_37 : decode cX10_whyNot 37 = .ok (.aload_n 0, 1) := by decide +kernel
theorem dX10_whyNot_38 : decode cX10_whyNot 38 = .ok (.getfield 7, 3) := by decide +kernel
theorem dX10_whyNot_41 : decode cX10_whyNot 41 = .ok (.sipush 195, 3) := by decide +kernel
theorem dX10_whyNot_44 : decode cX10_whyNot 44 = .ok (.iaload, 1) := by decide +kernel
theorem dX10_whyNot_45 : decode cX10_whyNot 45 = .ok (.bipush 30, 2) := by decide +kernel
theorem dX10_whyNot_47 : decode cX10_whyNot 47 = .ok (.if_icmp .ne 7, 3) := by decide +kernel
theorem dX10_whyNot_50 : decode cX10_whyNot 50 = .ok (.iconst 3, 1) := by decide +kernel
theorem dX10_whyNot_51 : decode cX10_whyNot 51 = .ok (.goto 4, 3) := by decide +kernel
theorem dX10_whyNot_54 : decode cX10_whyNot 54 = .ok (.iconst 0, 1) := by decide +kernel
theorem dX10_whyNot_55 : decode cX10_whyNot 55 = .ok (.ireturn, 1) := by decide +kernel
theorem dX10_give_0 : decode cX10_give 0 = .ok (.aload_n 0, 1) := by decide +kernel
theorem dX10_give_1 : decode cX10_give 1 = .ok (.aload_n 0, 1) := by decide +kernel
theorem dX10_give_2 : decode cX10_give 2 = .ok (.getfield 7, 3) := by decide +kernel
theorem dX10_give_5 : decode cX10_give 5 = .ok (.bipush 96, 2) := by decide +kernel
theorem dX10_give_7 : decode cX10_give 7 = .ok (.aload_n 0, 1) := by decide +kernel
theorem dX10_give_8 : decode cX10_give 8 = .ok (.iload_n 1, 1) := by decide +kernel
theorem dX10_give_9 : decode cX10_give 9 = .ok (.iconst 0, 1) := by decide +kernel
theorem dX10_give_10 : decode cX10_give 10 = .ok (.invokevirtual 39, 3) := by decide +kernel
theorem dX10_give_13 : decode cX10_give 13 = .ok (.iadd, 1) := by decide +kernel
theorem dX10_give_14 : decode cX10_give 14 = .ok (.iaload, 1) := by decide +kernel
theorem dX10_give_15 : decode cX10_give 15 = .ok (.iload_n 1, 1) := by decide +kernel
theorem dX10_give_16 : decode cX10_give 16 = .ok (.invokevirtual 87, 3) := by decide +kernel
theorem dX10_give_19 : decode cX10_give 19 = .ok (.istore_n 3, 1) := by decide +kernel
theorem dX10_give_20 : decode cX10_give 20 = .ok (.sipush 196, 3) := by decide +kernel
theorem dX10_give_23 : decode cX10_give 23 = .ok (.iconst 4, 1) := by decide +kernel
theorem dX10_give_24 : decode cX10_give 24 = .ok (.aload_n 0, 1) := by decide +kernel
theorem dX10_give_25 : decode cX10_give 25 = .ok (.getfield 7, 3) := by decide +kernel
theorem dX10_give_28 : decode cX10_give 28 = .ok (.sipush 195, 3) := by decide +kernel
theorem dX10_give_31 : decode cX10_give 31 = .ok (.iaload, 1) := by decide +kernel
theorem dX10_give_32 : decode cX10_give 32 = .ok (.imul, 1) := by decide +kernel
theorem dX10_give_33 : decode cX10_give 33 = .ok (.iadd, 1) := by decide +kernel
theorem dX10_give_34 : decode cX10_give 34 = .ok (.istore 4, 2) := by decide +kernel
theorem dX10_give_36 : decode cX10_give 36 = .ok (.aload_n 0, 1) := by decide +kernel
theorem dX10_give_37 : decode cX10_give 37 = .ok (.getfield 7, 3) := by decide +kernel
theorem dX10_give_40 : decode cX10_give 40 = .ok (.iload 4, 2) := by decide +kernel
theorem dX10_give_42 : decode cX10_give 42 = .ok (.aload_n 0, 1) := by decide +kernel
theorem dX10_give_43 : decode cX10_give 43 = .ok (.getfield 7, 3) := by decide +kernel
theorem dX10_give_46 : decode cX10_give 46 = .ok (.sipush 317, 3) := by decide +kernel
theorem dX10_give_49 : decode cX10_give 49 = .ok (.iaload, 1) := by decide +kernel
theorem dX10_give_50 : decode cX10_give 50 = .ok (.iastore, 1) := by decide +kernel
theorem dX10_give_51 : decode cX10_give 51 = .ok (.aload_n 0, 1) := by decide +kernel
theorem dX10_give_52 : decode cX10_give 52 = .ok (.getfield 7, 3) := by decide +kernel
theorem dX10_give_55 : decode cX10_give 55 = .ok (.iload 4, 2) := by decide +kernel
theorem dX10_give_57 : decode cX10_give 57 = .ok (.iconst 1, 1) := by decide +kernel
theorem dX10_give_58 : decode cX10_give 58 = .ok (.iadd, 1) := by decide +kernel
theorem dX10_give_59 : decode cX10_give 59 = .ok (.iload_n 1, 1) := by decide +kernel
theorem dX10_give_60 : decode cX10_give 60 = .ok (.iastore, 1) := by decide +kernel
theorem dX10_give_61 : decode cX10_give 61 = .ok (.aload_n 0, 1) := by decide +kernel
theorem dX10_give_62 : decode cX10_give 62 = .ok (.getfield 7, 3) := by decide +kernel
theorem dX10_give_65 : decode cX10_give 65 = .ok (.iload 4, 2) := by decide +kernel
theorem dX10_give_67 : decode cX10_give 67 = .ok (.iconst 2, 1) := by decide +kernel
theorem dX10_give_68 : decode cX10_give 68 = .ok (.iadd, 1) := by decide +kernel
theorem dX10_give_69 : decode cX10_give 69 = .ok (.iload_n 2, 1) := by decide +kernel
theorem dX10_give_70 : decode cX10_give 70 = .ok (.iastore, 1) := by decide +kernel
theorem dX10_give_71 : decode cX10_give 71 = .ok (.aload_n 0, 1) := by decide +kernel
theorem dX10_give_72 : decode cX10_give 72 = .ok (.getfield 7, 3) := by decide +kernel
theorem dX10_give_75 : decode cX10_give 75 = .ok (.iload 4, 2) := by decide +kernel
theorem dX10_give_77 : decode cX10_give 77 = .ok (.iconst 3, 1) := by decide +kernel
theorem dX10_give_78 : decode cX10_give 78 = .ok (.iadd, 1) := by decide +kernel
theorem dX10_give_79 : decode cX10_give 79 = .ok (.aload_n 0, 1) := by decide +kernel
theorem dX10_give_80 : decode cX10_give 80 = .ok (.getfield 7, 3) := by decide +kernel
theorem dX10_give_83 : decode cX10_give 83 = .ok (.sipush 316, 3) := by decide +kernel
theorem dX10_give_86 : decode cX10_give 86 = .ok (.iaload, 1) := by decide +kernel
theorem dX10_give_87 : decode cX10_give 87 = .ok (.iload_n 3, 1) := by decide +kernel
theorem dX10_give_88 : decode cX10_give 88 = .ok (.iadd, 1) := by decide +kernel
theorem dX10_give_89 : decode cX10_give 89 = .ok (.iastore, 1) := by decide +kernel
theorem dX10_give_90 : decode cX10_give 90 = .ok (.aload_n 0, 1) := by decide +kernel
theorem dX10_give_91 : decode cX10_give 91 = .ok (.getfield 7, 3) := by decide +kernel
theorem dX10_give_94 : decode cX10_give 94 = .ok (.sipush 317, 3) := by decide +kernel
theorem dX10_give_97 : decode cX10_give 97 = .ok (.dup2, 1) := by decide +kernel
theorem dX10_give_98 : decode cX10_give 98 = .ok (.iaload, 1) := by decide +kernel
theorem dX10_give_99 : decode cX10_give 99 = .ok (.iconst 1, 1) := by decide +kernel
theorem dX10_give_100 : decode cX10_give 100 = .ok (.iadd, 1) := by decide +kernel
theorem dX10_give_101 : decode cX10_give 101 = .ok (.iastore, 1) := by decide +kernel
theorem dX10_give_102 : decode cX10_give 102 = .ok (.aload_n 0, 1) := by decide +kernel
theorem dX10_give_103 : decode cX10_give 103 = .ok (.getfield 7, 3) := by decide +kernel
theorem dX10_give_106 : decode cX10_give 106 = .ok (.sipush 195, 3) := by decide +kernel
theorem dX10_give_109 : decode cX10_give 109 = .ok (.dup2, 1) := by decide +kernel
theorem dX10_give_110 : decode cX10_give 110 = .ok (.iaload, 1) := by decide +kernel
theorem dX10_give_111 : decode cX10_give 111 = .ok (.iconst 1, 1) := by decide +kernel
theorem dX10_give_112 : decode cX10_give 112 = .ok (.iadd, 1) := by decide +kernel
theorem dX10_give_113 : decode cX10_give 113 = .ok (.iastore, 1) := by decide +kernel
theorem dX10_give_114 : decode cX10_give 114 = .ok (.iload_n 3, 1) := by decide +kernel
theorem dX10_give_115 : decode cX10_give 115 = .ok (.ireturn, 1) := by decide +kernel
theorem dX10_order_0 : decode cX10_order 0 = .ok (.aload_n 0, 1) := by decide +kernel
theorem dX10_order_1 : decode cX10_order 1 = .ok (.aload_n 0, 1) := by decide +kernel
theorem dX10_order_2 : decode cX10_order 2 = .ok (.iload_n 1, 1) := by decide +kernel
theorem dX10_order_3 : decode cX10_order 3 = .ok (.invokevirtual 90, 3) := by decide +kernel
theorem dX10_order_6 : decode cX10_order 6 = .ok (.ifCond .eq 10, 3) := by decide +kernel
theorem dX10_order_9 : decode cX10_order 9 = .ok (.iload_n 2, 1) := by decide +kernel
theorem dX10_order_10 : decode cX10_order 10 = .ok (.invokestatic 71, 3) := by decide +kernel
theorem dX10_order_13 : decode cX10_order 13 = .ok (.ifCond .ne 7, 3) := by decide +kernel
theorem dX10_order_16 : decode cX10_order 16 = .ok (.iconst 1, 1) := by decide +kernel
theorem dX10_order_17 : decode cX10_order 17 = .ok (.goto 16, 3) := by decide +kernel
theorem dX10_order_20 : decode cX10_order 20 = .ok (.aload_n 0, 1) := by decide +kernel
theorem dX10_order_21 : decode cX10_order 21 = .ok (.iload_n 1, 1) := by decide +kernel
theorem dX10_order_22 : decode cX10_order 22 = .ok (.invokevirtual 93, 3) := by decide +kernel
theorem dX10_order_25 : decode cX10_order 25 = .ok (.ifCond .ne 7, 3) := by decide +kernel
theorem dX10_order_28 : decode cX10_order 28 = .ok (.iconst 0, 1) := by decide +kernel
theorem dX10_order_29 : decode cX10_order 29 = .ok (.goto 4, 3) := by decide +kernel
theorem dX10_order_32 : decode cX10_order 32 = .ok (.iconst 2, 1) := by decide +kernel
theorem dX10_order_33 : decode cX10_order 33 = .ok (.putfield 31, 3) := by decide +kernel
theorem dX10_order_36 : decode cX10_order 36 = .ok (.aload_n 0, 1) := by decide +kernel
theorem dX10_order_37 : decode cX10_order 37 = .ok (.getfield 31, 3) := by decide +kernel
theorem dX10_order_40 : decode cX10_order 40 = .ok (.ifCond .le 5, 3) := by decide +kernel
theorem dX10_order_43 : decode cX10_order 43 = .ok (.iconst 0, 1) := by decide +kernel
theorem dX10_order_44 : decode cX10_order 44 = .ok (.ireturn, 1) := by decide +kernel
theorem dX10_order_45 : decode cX10_order 45 = .ok (.aload_n 0, 1) := by decide +kernel
theorem dX10_order_46 : decode cX10_order 46 = .ok (.invokevirtual 74, 3) := by decide +kernel
theorem dX10_order_49 : decode cX10_order 49 = .ok (.aload_n 0, 1) := by decide +kernel
theorem dX10_order_50 : decode cX10_order 50 = .ok (.iload_n 1, 1) := by decide +kernel
theorem dX10_order_51 : decode cX10_order 51 = .ok (.iload_n 2, 1) := by decide +kernel
theorem dX10_order_52 : decode cX10_order 52 = .ok (.invokevirtual 96, 3) := by decide +kernel
theorem dX10_order_55 : decode cX10_order 55 = .ok (.ireturn, 1) := by decide +kernel
theorem dX10_come_0 : decode cX10_come 0 = .ok (.aload_n 0, 1) := by decide +kernel
theorem dX10_come_1 : decode cX10_come 1 = .ok (.iload_n 1, 1) := by decide +kernel
theorem dX10_come_2 : decode cX10_come 2 = .ok (.iconst 4, 1) := by decide +kernel
theorem dX10_come_3 : decode cX10_come 3 = .ok (.invokevirtual 39, 3) := by decide +kernel
theorem dX10_come_6 : decode cX10_come 6 = .ok (.ifCond .ne 29, 3) := by decide +kernel
theorem dX10_come_9 : decode cX10_come 9 = .ok (.aload_n 0, 1) := by decide +kernel
theorem dX10_come_10 : decode cX10_come 10 = .ok (.iload_n 1, 1) := by decide +kernel
theorem dX10_come_11 : decode cX10_come 11 = .ok (.iconst 3, 1) := by decide +kernel
theorem dX10_come_12 : decode cX10_come 12 = .ok (.iload_n 2, 1) := by decide +kernel
theorem dX10_come_13 : decode cX10_come 13 = .ok (.invokevirtual 80, 3) := by decide +kernel
theorem dX10_come_16 : decode cX10_come 16 = .ok (.aload_n 0, 1) := by decide +kernel
theorem dX10_come_17 : decode cX10_come 17 = .ok (.iload_n 1, 1) := by decide +kernel
theorem dX10_come_18 : decode cX10_come 18 = .ok (.bipush 7, 2) := by decide +kernel
theorem dX10_come_20 : decode cX10_come 20 = .ok (.aload_n 0, 1) := by decide +kernel
theorem dX10_come_21 : decode cX10_come 21 = .ok (.iload_n 1, 1) := by decide +kernel
theorem dX10_come_22 : decode cX10_come 22 = .ok (.bipush 7, 2) := by decide +kernel
theorem dX10_come_24 : decode cX10_come 24 = .ok (.invokevirtual 39, 3) := by decide +kernel
theorem dX10_come_27 : decode cX10_come 27 = .ok (.iconst 1, 1) := by decide +kernel
theorem dX10_come_28 : decode cX10_come 28 = .ok (.iadd, 1) := by decide +kernel
theorem dX10_come_29 : decode cX10_come 29 = .ok (.invokevirtual 80, 3) := by decide +kernel
theorem dX10_come_32 : decode cX10_come 32 = .ok (.goto 15, 3) := by decide +kernel
theorem dX10_come_35 : decode cX10_come 35 = .ok (.aload_n 0, 1) := by decide +kernel
theorem dX10_come_36 : decode cX10_come 36 = .ok (.getfield 7, 3) := by decide +kernel
theorem dX10_come_39 : decode cX10_come 39 = .ok (.sipush 318, 3) := by decide +kernel
theorem dX10_come_42 : decode cX10_come 42 = .ok (.dup2, 1) := by decide +kernel
theorem dX10_come_43 : decode cX10_come 43 = .ok (.iaload, 1) := by decide +kernel
theorem dX10_come_44 : decode cX10_come 44 = .ok (.iconst 1, 1) := by decide +kernel
theorem dX10_come_45 : decode cX10_come 45 = .ok (.iadd, 1) := by decide +kernel
theorem dX10_come_46 : decode cX10_come 46 = .ok (.iastore, 1) := by decide +kernel
theorem dX10_come_47 : decode cX10_come 47 = .ok (.return_, 1) := by decide +kernel
theorem dX10_comeAll_0 : decode cX10_comeAll 0 = .ok (.iconst 0, 1) := by decide +kernel
theorem dX10_comeAll_1 : decode cX10_comeAll 1 = .ok (.istore_n 1, 1) := by decide +kernel
theorem dX10_comeAll_2 : decode cX10_comeAll 2 = .ok (.aload_n 0, 1) := by decide +kernel
theorem dX10_comeAll_3 : decode cX10_comeAll 3 = .ok (.getfield 7, 3) := by decide +kernel
theorem dX10_comeAll_6 : decode cX10_comeAll 6 = .ok (.sipush 195, 3) := by decide +kernel
theorem dX10_comeAll_9 : decode cX10_comeAll 9 = .ok (.iaload, 1) := by decide +kernel
theorem dX10_comeAll_10 : decode cX10_comeAll 10 = .ok (.istore_n 2, 1) := by decide +kernel
theorem dX10_comeAll_11 : decode cX10_comeAll 11 = .ok (.iconst 0, 1) := by decide +kernel
theorem dX10_comeAll_12 : decode cX10_comeAll 12 = .ok (.istore_n 3, 1) := by decide +kernel
theorem dX10_comeAll_13 : decode cX10_comeAll 13 = .ok (.iload_n 3, 1) := by decide +kernel
theorem dX10_comeAll_14 : decode cX10_comeAll 14 = .ok (.iload_n 2, 1) := by decide +kernel
theorem dX10_comeAll_15 : decode cX10_comeAll 15 = .ok (.if_icmp .ge 106, 3) := by decide +kernel
theorem dX10_comeAll_18 : decode cX10_comeAll 18 = .ok (.sipush 196, 3) := by decide +kernel
theorem dX10_comeAll_21 : decode cX10_comeAll 21 = .ok (.iconst 4, 1) := by decide +kernel
theorem dX10_comeAll_22 : decode cX10_comeAll 22 = .ok (.iload_n 3, 1) := by decide +kernel
theorem dX10_comeAll_23 : decode cX10_comeAll 23 = .ok (.imul, 1) := by decide +kernel
theorem dX10_comeAll_24 : decode cX10_comeAll 24 = .ok (.iadd, 1) := by decide +kernel
theorem dX10_comeAll_25 : decode cX10_comeAll 25 = .ok (.istore 4, 2) := by decide +kernel
theorem dX10_comeAll_27 : decode cX10_comeAll 27 = .ok (.aload_n 0, 1) := by decide +kernel
theorem dX10_comeAll_28 : decode cX10_comeAll 28 = .ok (.getfield 7, 3) := by decide +kernel
theorem dX10_comeAll_31 : decode cX10_comeAll 31 = .ok (.iload 4, 2) := by decide +kernel
theorem dX10_comeAll_33 : decode cX10_comeAll 33 = .ok (.iconst 3, 1) := by decide +kernel
theorem dX10_comeAll_34 : decode cX10_comeAll 34 = .ok (.iadd, 1) := by decide +kernel
theorem dX10_comeAll_35 : decode cX10_comeAll 35 = .ok (.iaload, 1) := by decide +kernel
theorem dX10_comeAll_36 : decode cX10_comeAll 36 = .ok (.aload_n 0, 1) := by decide +kernel
theorem dX10_comeAll_37 : decode cX10_comeAll 37 = .ok (.getfield 7, 3) := by decide +kernel
theorem dX10_comeAll_40 : decode cX10_comeAll 40 = .ok (.sipush 316, 3) := by decide +kernel
theorem dX10_comeAll_43 : decode cX10_comeAll 43 = .ok (.iaload, 1) := by decide +kernel
theorem dX10_comeAll_44 : decode cX10_comeAll 44 = .ok (.if_icmp .ne 28, 3) := by decide +kernel
theorem dX10_comeAll_47 : decode cX10_comeAll 47 = .ok (.aload_n 0, 1) := by decide +kernel
theorem dX10_comeAll_48 : decode cX10_comeAll 48 = .ok (.aload_n 0, 1) := by decide +kernel
theorem dX10_comeAll_49 : decode cX10_comeAll 49 = .ok (.getfield 7, 3) := by decide +kernel
theorem dX10_comeAll_52 : decode cX10_comeAll 52 = .ok (.iload 4, 2) := by decide +kernel
theorem dX10_comeAll_54 : decode cX10_comeAll 54 = .ok (.iconst 1, 1) := by decide +kernel
theorem dX10_comeAll_55 : decode cX10_comeAll 55 = .ok (.iadd, 1) := by decide +kernel
theorem dX10_comeAll_56 : decode cX10_comeAll 56 = .ok (.iaload, 1) := by decide +kernel
theorem dX10_comeAll_57 : decode cX10_comeAll 57 = .ok (.aload_n 0, 1) := by decide +kernel
theorem dX10_comeAll_58 : decode cX10_comeAll 58 = .ok (.getfield 7, 3) := by decide +kernel
theorem dX10_comeAll_61 : decode cX10_comeAll 61 = .ok (.iload 4, 2) := by decide +kernel
theorem dX10_comeAll_63 : decode cX10_comeAll 63 = .ok (.iconst 2, 1) := by decide +kernel
theorem dX10_comeAll_64 : decode cX10_comeAll 64 = .ok (.iadd, 1) := by decide +kernel
theorem dX10_comeAll_65 : decode cX10_comeAll 65 = .ok (.iaload, 1) := by decide +kernel
theorem dX10_comeAll_66 : decode cX10_comeAll 66 = .ok (.invokevirtual 99, 3) := by decide +kernel
theorem dX10_comeAll_69 : decode cX10_comeAll 69 = .ok (.goto 46, 3) := by decide +kernel
theorem dX10_comeAll_72 : decode cX10_comeAll 72 = .ok (.iconst 0, 1) := by decide +kernel
theorem dX10_comeAll_73 : decode cX10_comeAll 73 = .ok (.istore 5, 2) := by decide +kernel
theorem dX10_comeAll_75 : decode cX10_comeAll 75 = .ok (.iload 5, 2) := by decide +kernel
theorem dX10_comeAll_77 : decode cX10_comeAll 77 = .ok (.iconst 4, 1) := by decide +kernel
theorem dX10_comeAll_78 : decode cX10_comeAll 78 = .ok (.if_icmp .ge 34, 3) := by decide +kernel
theorem dX10_comeAll_81 : decode cX10_comeAll 81 = .ok (.aload_n 0, 1) := by decide +kernel
theorem dX10_comeAll_82 : decode cX10_comeAll 82 = .ok (.getfield 7, 3) := by decide +kernel
theorem dX10_comeAll_85 : decode cX10_comeAll 85 = .ok (.sipush 196, 3) := by decide +kernel
theorem dX10_comeAll_88 : decode cX10_comeAll 88 = .ok (.iconst 4, 1) := by decide +kernel
theorem dX10_comeAll_89 : decode cX10_comeAll 89 = .ok (.iload_n 1, 1) := by decide +kernel
theorem dX10_comeAll_90 : decode cX10_comeAll 90 = .ok (.imul, 1) := by decide +kernel
theorem dX10_comeAll_91 : decode cX10_comeAll 91 = .ok (.iadd, 1) := by decide +kernel
theorem dX10_comeAll_92 : decode cX10_comeAll 92 = .ok (.iload 5, 2) := by decide +kernel
theorem dX10_comeAll_94 : decode cX10_comeAll 94 = .ok (.iadd, 1) := by decide +kernel
theorem dX10_comeAll_95 : decode cX10_comeAll 95 = .ok (.aload_n 0, 1) := by decide +kernel
theorem dX10_comeAll_96 : decode cX10_comeAll 96 = .ok (.getfield 7, 3) := by decide +kernel
theorem dX10_comeAll_99 : decode cX10_comeAll 99 = .ok (.iload 4, 2) := by decide +kernel
theorem dX10_comeAll_101 : decode cX10_comeAll 101 = .ok (.iload 5, 2) := by decide +kernel
theorem dX10_comeAll_103 : decode cX10_comeAll 103 = .ok (.iadd, 1) := by decide +kernel
theorem dX10_comeAll_104 : decode cX10_comeAll 104 = .ok (.iaload, 1) := by decide +kernel
theorem dX10_comeAll_105 : decode cX10_comeAll 105 = .ok (.iastore, 1) := by decide +kernel
theorem dX10_comeAll_106 : decode cX10_comeAll 106 = .ok (.iinc 5 1, 3) := by decide +kernel
theorem dX10_comeAll_109 : decode cX10_comeAll 109 = .ok (.goto (-34), 3) := by decide +kernel
theorem dX10_comeAll_112 : decode cX10_comeAll 112 = .ok (.iinc 1 1, 3) := by decide +kernel
theorem dX10_comeAll_115 : decode cX10_comeAll 115 = .ok (.iinc 3 1, 3) := by decide +kernel
theorem dX10_comeAll_118 : decode cX10_comeAll 118 = .ok (.goto (-105), 3) := by decide +kernel
theorem dX10_comeAll_121 : decode cX10_comeAll 121 = .ok (.aload_n 0, 1) := by decide +kernel
theorem dX10_comeAll_122 : decode cX10_comeAll 122 = .ok (.getfield 7, 3) := by decide +kernel
theorem dX10_comeAll_125 : decode cX10_comeAll 125 = .ok (.sipush 195, 3) := by decide +kernel
theorem dX10_comeAll_128 : decode cX10_comeAll 128 = .ok (.iload_n 1, 1) := by decide +kernel
theorem dX10_comeAll_129 : decode cX10_comeAll 129 = .ok (.iastore, 1) := by decide +kernel
theorem dX10_comeAll_130 : decode cX10_comeAll 130 = .ok (.return_, 1) := by decide +kernel
theorem dX10_march_0 : decode cX10_march 0 = .ok (.aload_n 0, 1) := by decide +kernel
theorem dX10_march_1 : decode cX10_march 1 = .ok (.iload_n 1, 1) := by decide +kernel
theorem dX10_march_2 : decode cX10_march 2 = .ok (.iconst 1, 1) := by decide +kernel
theorem dX10_march_3 : decode cX10_march 3 = .ok (.invokevirtual 39, 3) := by decide +kernel
theorem dX10_march_6 : decode cX10_march 6 = .ok (.istore_n 2, 1) := by decide +kernel
theorem dX10_march_7 : decode cX10_march 7 = .ok (.aload_n 0, 1) := by decide +kernel
theorem dX10_march_8 : decode cX10_march 8 = .ok (.iload_n 1, 1) := by decide +kernel
theorem dX10_march_9 : decode cX10_march 9 = .ok (.iconst 4, 1) := by decide +kernel
theorem dX10_march_10 : decode cX10_march 10 = .ok (.invokevirtual 39, 3) := by decide +kernel
theorem dX10_march_13 : decode cX10_march 13 = .ok (.iconst 1, 1) := by decide +kernel
theorem dX10_march_14 : decode cX10_march 14 = .ok (.if_icmp .ne 49, 3) := by decide +kernel
theorem dX10_march_17 : decode cX10_march 17 = .ok (.aload_n 0, 1) := by decide +kernel
theorem dX10_march_18 : decode cX10_march 18 = .ok (.iload_n 2, 1) := by decide +kernel
theorem dX10_march_19 : decode cX10_march 19 = .ok (.aload_n 0, 1) := by decide +kernel
theorem dX10_march_20 : decode cX10_march 20 = .ok (.iload_n 1, 1) := by decide +kernel
theorem dX10_march_21 : decode cX10_march 21 = .ok (.iconst 0, 1) := by decide +kernel
theorem dX10_march_22 : decode cX10_march 22 = .ok (.invokevirtual 39, 3) := by decide +kernel
theorem dX10_march_25 : decode cX10_march 25 = .ok (.ifCond .ne 7, 3) := by decide +kernel
theorem dX10_march_28 : decode cX10_march 28 = .ok (.iconst 3, 1) := by decide +kernel
theorem dX10_march_29 : decode cX10_march 29 = .ok (.goto 4, 3) := by decide +kernel
theorem dX10_march_32 : decode cX10_march 32 = .ok (.iconst 1, 1) := by decide +kernel
theorem dX10_march_33 : decode cX10_march 33 = .ok (.invokevirtual 54, 3) := by decide +kernel
theorem dX10_march_36 : decode cX10_march 36 = .ok (.istore_n 3, 1) := by decide +kernel
theorem dX10_march_37 : decode cX10_march 37 = .ok (.aload_n 0, 1) := by decide +kernel
theorem dX10_march_38 : decode cX10_march 38 = .ok (.iload_n 1, 1) := by decide +kernel
theorem dX10_march_39 : decode cX10_march 39 = .ok (.iconst 1, 1) := by decide +kernel
theorem dX10_march_40 : decode cX10_march 40 = .ok (.iload_n 3, 1) := by decide +kernel
theorem dX10_march_41 : decode cX10_march 41 = .ok (.iconst (-1), 1) := by decide +kernel
theorem dX10_march_42 : decode cX10_march 42 = .ok (.if_icmp .eq 16, 3) := by decide +kernel
theorem dX10_march_45 : decode cX10_march 45 = .ok (.aload_n 0, 1) := by decide +kernel
theorem dX10_march_46 : decode cX10_march 46 = .ok (.iload_n 3, 1) := by decide +kernel
theorem dX10_march_47 : decode cX10_march 47 = .ok (.invokevirtual 57, 3) := by decide +kernel
theorem dX10_march_50 : decode cX10_march 50 = .ok (.iconst (-1), 1) := by decide +kernel
theorem dX10_march_51 : decode cX10_march 51 = .ok (.if_icmp .ne 7, 3) := by decide +kernel
theorem dX10_march_54 : decode cX10_march 54 = .ok (.iload_n 3, 1) := by decide +kernel
theorem dX10_march_55 : decode cX10_march 55 = .ok (.goto 4, 3) := by decide +kernel
theorem dX10_march_58 : decode cX10_march 58 = .ok (.iload_n 2, 1) := by decide +kernel
theorem dX10_march_59 : decode cX10_march 59 = .ok (.invokevirtual 80, 3) := by decide +kernel
theorem dX10_march_62 : decode cX10_march 62 = .ok (.return_, 1) := by decide +kernel
theorem dX10_march_63 : decode cX10_march 63 = .ok (.aload_n 0, 1) := by decide +kernel
theorem dX10_march_64 : decode cX10_march 64 = .ok (.iload_n 1, 1) := by decide +kernel
theorem dX10_march_65 : decode cX10_march 65 = .ok (.iconst 4, 1) := by decide +kernel
theorem dX10_march_66 : decode cX10_march 66 = .ok (.invokevirtual 39, 3) := by decide +kernel
theorem dX10_march_69 : decode cX10_march 69 = .ok (.iconst 2, 1) := by decide +kernel
theorem dX10_march_70 : decode cX10_march 70 = .ok (.if_icmp .eq 13, 3) := by decide +kernel
theorem dX10_march_73 : decode cX10_march 73 = .ok (.iload_n 2, 1) := by decide +kernel
theorem dX10_march_74 : decode cX10_march 74 = .ok (.aload_n 0, 1) := by decide +kernel
theorem dX10_march_75 : decode cX10_march 75 = .ok (.iload_n 1, 1) := by decide +kernel
theorem dX10_march_76 : decode cX10_march 76 = .ok (.iconst 3, 1) := by decide +kernel
theorem dX10_march_77 : decode cX10_march 77 = .ok (.invokevirtual 39, 3) := by decide +kernel
theorem dX10_march_80 : decode cX10_march 80 = .ok (.if_icmp .ne 4, 3) := by decide +kernel
theorem dX10_march_83 : decode cX10_march 83 = .ok (.return_, 1) := by decide +kernel
theorem dX10_march_84 : decode cX10_march 84 = .ok (.aload_n 0, 1) := by decide +kernel
theorem dX10_march_85 : decode cX10_march 85 = .ok (.aload_n 0, 1) := by decide +kernel
theorem dX10_march_86 : decode cX10_march 86 = .ok (.iload_n 1, 1) := by decide +kernel
theorem dX10_march_87 : decode cX10_march 87 = .ok (.iconst 3, 1) := by decide +kernel
theorem dX10_march_88 : decode cX10_march 88 = .ok (.invokevirtual 39, 3) := by decide +kernel
theorem dX10_march_91 : decode cX10_march 91 = .ok (.iload_n 1, 1) := by decide +kernel
theorem dX10_march_92 : decode cX10_march 92 = .ok (.invokevirtual 60, 3) := by decide +kernel
theorem dX10_march_95 : decode cX10_march 95 = .ok (.iconst (-1), 1) := by decide +kernel
theorem dX10_march_96 : decode cX10_march 96 = .ok (.istore_n 3, 1) := by decide +kernel
theorem dX10_march_97 : decode cX10_march 97 = .ok (.iconst 3, 1) := by decide +kernel
theorem dX10_march_98 : decode cX10_march 98 = .ok (.istore 4, 2) := by decide +kernel
theorem dX10_march_100 : decode cX10_march 100 = .ok (.iload 4, 2) := by decide +kernel
theorem dX10_march_102 : decode cX10_march 102 = .ok (.ifCond .lt 92, 3) := by decide +kernel
theorem dX10_march_105 : decode cX10_march 105 = .ok (.aload_n 0, 1) := by decide +kernel
theorem dX10_march_106 : decode cX10_march 106 = .ok (.getfield 19, 3) := by decide +kernel
theorem dX10_march_109 : decode cX10_march 109 = .ok (.iload_n 2, 1) := by decide +kernel
theorem dX10_march_110 : decode cX10_march 110 = .ok (.iaload, 1) := by decide +kernel
theorem dX10_march_111 : decode cX10_march 111 = .ok (.iconst (-1), 1) := by decide +kernel
theorem dX10_march_112 : decode cX10_march 112 = .ok (.if_icmp .eq 82, 3) := by decide +kernel
theorem dX10_march_115 : decode cX10_march 115 = .ok (.aload_n 0, 1) := by decide +kernel
theorem dX10_march_116 : decode cX10_march 116 = .ok (.iload_n 2, 1) := by decide +kernel
theorem dX10_march_117 : decode cX10_march 117 = .ok (.iload 4, 2) := by decide +kernel
theorem dX10_march_119 : decode cX10_march 119 = .ok (.invokevirtual 54, 3) := by decide +kernel
theorem dX10_march_122 : decode cX10_march 122 = .ok (.istore 5, 2) := by decide +kernel
theorem dX10_march_124 : decode cX10_march 124 = .ok (.iload 5, 2) := by decide +kernel
theorem dX10_march_126 : decode cX10_march 126 = .ok (.iconst (-1), 1) := by decide +kernel
theorem dX10_march_127 : decode cX10_march 127 = .ok (.if_icmp .eq 46, 3) := by decide +kernel
theorem dX10_march_130 : decode cX10_march 130 = .ok (.aload_n 0, 1) := by decide +kernel
theorem dX10_march_131 : decode cX10_march 131 = .ok (.getfield 19, 3) := by decide +kernel
theorem dX10_march_134 : decode cX10_march 134 = .ok (.iload 5, 2) := by decide +kernel
theorem dX10_march_136 : decode cX10_march 136 = .ok (.iaload, 1) := by decide +kernel
theorem dX10_march_137 : decode cX10_march 137 = .ok (.iconst (-1), 1) := by decide +kernel
theorem dX10_march_138 : decode cX10_march 138 = .ok (.if_icmp .eq 35, 3) := by decide +kernel
theorem dX10_march_141 : decode cX10_march 141 = .ok (.aload_n 0, 1) := by decide +kernel
theorem dX10_march_142 : decode cX10_march 142 = .ok (.getfield 19, 3) := by decide +kernel
theorem dX10_march_145 : decode cX10_march 145 = .ok (.iload 5, 2) := by decide +kernel
theorem dX10_march_147 : decode cX10_march 147 = .ok (.iaload, 1) := by decide +kernel
theorem dX10_march_148 : decode cX10_march 148 = .ok (.aload_n 0, 1) := by decide +kernel
theorem dX10_march_149 : decode cX10_march 149 = .ok (.getfield 19, 3) := by decide +kernel
theorem dX10_march_152 : decode cX10_march 152 = .ok (.iload_n 2, 1) := by decide +kernel
theorem dX10_march_153 : decode cX10_march 153 = .ok (.iaload, 1) := by decide +kernel
theorem dX10_march_154 : decode cX10_march 154 = .ok (.iconst 1, 1) := by decide +kernel
theorem dX10_march_155 : decode cX10_march 155 = .ok (.isub, 1) := by decide +kernel
theorem dX10_march_156 : decode cX10_march 156 = .ok (.if_icmp .ne 17, 3) := by decide +kernel
theorem dX10_march_159 : decode cX10_march 159 = .ok (.aload_n 0, 1) := by decide +kernel
theorem dX10_march_160 : decode cX10_march 160 = .ok (.iload 5, 2) := by decide +kernel
theorem dX10_march_162 : decode cX10_march 162 = .ok (.invokevirtual 57, 3) := by decide +kernel
theorem dX10_march_165 : decode cX10_march 165 = .ok (.iconst (-1), 1) := by decide +kernel
theorem dX10_march_166 : decode cX10_march 166 = .ok (.if_icmp .ne 7, 3) := by decide +kernel
theorem dX10_march_169 : decode cX10_march 169 = .ok (.iconst 1, 1) := by decide +kernel
theorem dX10_march_170 : decode cX10_march 170 = .ok (.goto 4, 3) := by decide +kernel
theorem dX10_march_173 : decode cX10_march 173 = .ok (.iconst 0, 1) := by decide +kernel
theorem dX10_march_174 : decode cX10_march 174 = .ok (.istore 6, 2) := by decide +kernel
theorem dX10_march_176 : decode cX10_march 176 = .ok (.iload 6, 2) := by decide +kernel
theorem dX10_march_178 : decode cX10_march 178 = .ok (.ifCond .eq 8, 3) := by decide +kernel
theorem dX10_march_181 : decode cX10_march 181 = .ok (.iload 5, 2) := by decide +kernel
theorem dX10_march_183 : decode cX10_march 183 = .ok (.goto 4, 3) := by decide +kernel
theorem dX10_march_186 : decode cX10_march 186 = .ok (.iload_n 3, 1) := by decide +kernel
theorem dX10_march_187 : decode cX10_march 187 = .ok (.istore_n 3, 1) := by decide +kernel
theorem dX10_march_188 : decode cX10_march 188 = .ok (.iinc 4 (-1), 3) := by decide +kernel
theorem dX10_march_191 : decode cX10_march 191 = .ok (.goto (-91), 3) := by decide +kernel
theorem dX10_march_194 : decode cX10_march 194 = .ok (.aload_n 0, 1) := by decide +kernel
theorem dX10_march_195 : decode cX10_march 195 = .ok (.iload_n 1, 1) := by decide +kernel
theorem dX10_march_196 : decode cX10_march 196 = .ok (.iconst 1, 1) := by decide +kernel
theorem dX10_march_197 : decode cX10_march 197 = .ok (.iload_n 3, 1) := by decide +kernel
theorem dX10_march_198 : decode cX10_march 198 = .ok (.iconst (-1), 1) := by decide +kernel
theorem dX10_march_199 : decode cX10_march 199 = .ok (.if_icmp .ne 7, 3) := by decide +kernel
theorem dX10_march_202 : decode cX10_march 202 = .ok (.iload_n 2, 1) := by decide +kernel
theorem dX10_march_203 : decode cX10_march 203 = .ok (.goto 4, 3) := by decide +kernel
theorem dX10_march_206 : decode cX10_march 206 = .ok (.iload_n 3, 1) := by decide +kernel
theorem dX10_march_207 : decode cX10_march 207 = .ok (.invokevirtual 80, 3) := by decide +kernel
theorem dX10_march_210 : decode cX10_march 210 = .ok (.return_, 1) := by decide +kernel
theorem dX10_loss_0 : decode cX10_loss 0 = .ok (.iconst 0, 1) := by decide +kernel
theorem dX10_loss_1 : decode cX10_loss 1 = .ok (.istore_n 2, 1) := by decide +kernel
theorem dX10_loss_2 : decode cX10_loss 2 = .ok (.iconst 0, 1) := by decide +kernel
theorem dX10_loss_3 : decode cX10_loss 3 = .ok (.istore_n 3, 1) := by decide +kernel
theorem dX10_loss_4 : decode cX10_loss 4 = .ok (.iload_n 3, 1) := by decide +kernel
theorem dX10_loss_5 : decode cX10_loss 5 = .ok (.iconst 4, 1) := by decide +kernel
theorem dX10_loss_6 : decode cX10_loss 6 = .ok (.if_icmp .ge 98, 3) := by decide +kernel
theorem dX10_loss_9 : decode cX10_loss 9 = .ok (.aload_n 0, 1) := by decide +kernel
theorem dX10_loss_10 : decode cX10_loss 10 = .ok (.iload_n 1, 1) := by decide +kernel
theorem dX10_loss_11 : decode cX10_loss 11 = .ok (.invokevirtual 50, 3) := by decide +kernel
theorem dX10_loss_14 : decode cX10_loss 14 = .ok (.ifCond .ne 90, 3) := by decide +kernel
theorem dX10_loss_17 : decode cX10_loss 17 = .ok (.aload_n 0, 1) := by decide +kernel
theorem dX10_loss_18 : decode cX10_loss 18 = .ok (.iload_n 1, 1) := by decide +kernel
theorem dX10_loss_19 : decode cX10_loss 19 = .ok (.iconst 1, 1) := by decide +kernel
theorem dX10_loss_20 : decode cX10_loss 20 = .ok (.invokevirtual 39, 3) := by decide +kernel
theorem dX10_loss_23 : decode cX10_loss 23 = .ok (.iload_n 3, 1) := by decide +kernel
theorem dX10_loss_24 : decode cX10_loss 24 = .ok (.invokestatic 43, 3) := by decide +kernel
theorem dX10_loss_27 : decode cX10_loss 27 = .ok (.istore 4, 2) := by decide +kernel
theorem dX10_loss_29 : decode cX10_loss 29 = .ok (.iload 4, 2) := by decide +kernel
theorem dX10_loss_31 : decode cX10_loss 31 = .ok (.iconst (-1), 1) := by decide +kernel
theorem dX10_loss_32 : decode cX10_loss 32 = .ok (.if_icmp .ne 7, 3) := by decide +kernel
theorem dX10_loss_35 : decode cX10_loss 35 = .ok (.iconst (-1), 1) := by decide +kernel
theorem dX10_loss_36 : decode cX10_loss 36 = .ok (.goto 9, 3) := by decide +kernel
theorem dX10_loss_39 : decode cX10_loss 39 = .ok (.aload_n 0, 1) := by decide +kernel
theorem dX10_loss_40 : decode cX10_loss 40 = .ok (.iload 4, 2) := by decide +kernel
theorem dX10_loss_42 : decode cX10_loss 42 = .ok (.invokevirtual 57, 3) := by decide +kernel
theorem dX10_loss_45 : decode cX10_loss 45 = .ok (.istore 5, 2) := by decide +kernel
theorem dX10_loss_47 : decode cX10_loss 47 = .ok (.iload 5, 2) := by decide +kernel
theorem dX10_loss_49 : decode cX10_loss 49 = .ok (.iconst (-1), 1) := by decide +kernel
theorem dX10_loss_50 : decode cX10_loss 50 = .ok (.if_icmp .eq 48, 3) := by decide +kernel
theorem dX10_loss_53 : decode cX10_loss 53 = .ok (.aload_n 0, 1) := by decide +kernel
theorem dX10_loss_54 : decode cX10_loss 54 = .ok (.iload 5, 2) := by decide +kernel
theorem dX10_loss_56 : decode cX10_loss 56 = .ok (.iconst 0, 1) := by decide +kernel
theorem dX10_loss_57 : decode cX10_loss 57 = .ok (.invokevirtual 39, 3) := by decide +kernel
theorem dX10_loss_60 : decode cX10_loss 60 = .ok (.aload_n 0, 1) := by decide +kernel
theorem dX10_loss_61 : decode cX10_loss 61 = .ok (.iload_n 1, 1) := by decide +kernel
theorem dX10_loss_62 : decode cX10_loss 62 = .ok (.iconst 0, 1) := by decide +kernel
theorem dX10_loss_63 : decode cX10_loss 63 = .ok (.invokevirtual 39, 3) := by decide +kernel
theorem dX10_loss_66 : decode cX10_loss 66 = .ok (.if_icmp .eq 32, 3) := by decide +kernel
theorem dX10_loss_69 : decode cX10_loss 69 = .ok (.iload_n 2, 1) := by decide +kernel
theorem dX10_loss_70 : decode cX10_loss 70 = .ok (.aload_n 0, 1) := by decide +kernel
theorem dX10_loss_71 : decode cX10_loss 71 = .ok (.getfield 7, 3) := by decide +kernel
theorem dX10_loss_74 : decode cX10_loss 74 = .ok (.iload 4, 2) := by decide +kernel
theorem dX10_loss_76 : decode cX10_loss 76 = .ok (.iaload, 1) := by decide +kernel
theorem dX10_loss_77 : decode cX10_loss 77 = .ok (.aload_n 0, 1) := by decide +kernel
theorem dX10_loss_78 : decode cX10_loss 78 = .ok (.getfield 7, 3) := by decide +kernel
theorem dX10_loss_81 : decode cX10_loss 81 = .ok (.aload_n 0, 1) := by decide +kernel
theorem dX10_loss_82 : decode cX10_loss 82 = .ok (.iload_n 1, 1) := by decide +kernel
theorem dX10_loss_83 : decode cX10_loss 83 = .ok (.iconst 1, 1) := by decide +kernel
theorem dX10_loss_84 : decode cX10_loss 84 = .ok (.invokevirtual 39, 3) := by decide +kernel
theorem dX10_loss_87 : decode cX10_loss 87 = .ok (.iaload, 1) := by decide +kernel
theorem dX10_loss_88 : decode cX10_loss 88 = .ok (.if_icmp .le 7, 3) := by decide +kernel
theorem dX10_loss_91 : decode cX10_loss 91 = .ok (.iconst 2, 1) := by decide +kernel
theorem dX10_loss_92 : decode cX10_loss 92 = .ok (.goto 4, 3) := by decide +kernel
theorem dX10_loss_95 : decode cX10_loss 95 = .ok (.iconst 1, 1) := by decide +kernel
theorem dX10_loss_96 : decode cX10_loss 96 = .ok (.iadd, 1) := by decide +kernel
theorem dX10_loss_97 : decode cX10_loss 97 = .ok (.istore_n 2, 1) := by decide +kernel
theorem dX10_loss_98 : decode cX10_loss 98 = .ok (.iinc 3 1, 3) := by decide +kernel
theorem dX10_loss_101 : decode cX10_loss 101 = .ok (.goto (-97), 3) := by decide +kernel
theorem dX10_loss_104 : decode cX10_loss 104 = .ok (.iload_n 2, 1) := by decide +kernel
theorem dX10_loss_105 : decode cX10_loss 105 = .ok (.aload_n 0, 1) := by decide +kernel
theorem dX10_loss_106 : decode cX10_loss 106 = .ok (.iload_n 1, 1) := by decide +kernel
theorem dX10_loss_107 : decode cX10_loss 107 = .ok (.iconst 2, 1) := by decide +kernel
theorem dX10_loss_108 : decode cX10_loss 108 = .ok (.invokevirtual 39, 3) := by decide +kernel
theorem dX10_loss_111 : decode cX10_loss 111 = .ok (.if_icmp .ge 7, 3) := by decide +kernel
theorem dX10_loss_114 : decode cX10_loss 114 = .ok (.iload_n 2, 1) := by decide +kernel
theorem dX10_loss_115 : decode cX10_loss 115 = .ok (.goto 9, 3) := by decide +kernel
theorem dX10_loss_118 : decode cX10_loss 118 = .ok (.aload_n 0, 1) := by decide +kernel
theorem dX10_loss_119 : decode cX10_loss 119 = .ok (.iload_n 1, 1) := by decide +kernel
theorem dX10_loss_120 : decode cX10_loss 120 = .ok (.iconst 2, 1) := by decide +kernel
theorem dX10_loss_121 : decode cX10_loss 121 = .ok (.invokevirtual 39, 3) := by decide +kernel
theorem dX10_loss_124 : decode cX10_loss 124 = .ok (.ireturn, 1) := by decide +kernel
theorem dX10_fight_0 : decode cX10_fight 0 = .ok (.iconst 0, 1) := by decide +kernel
theorem dX10_fight_1 : decode cX10_fight 1 = .ok (.istore_n 1, 1) := by decide +kernel
theorem dX10_fight_2 : decode cX10_fight 2 = .ok (.iload_n 1, 1) := by decide +kernel
theorem dX10_fight_3 : decode cX10_fight 3 = .ok (.aload_n 0, 1) := by decide +kernel
theorem dX10_fight_4 : decode cX10_fight 4 = .ok (.getfield 7, 3) := by decide +kernel
theorem dX10_fight_7 : decode cX10_fight 7 = .ok (.bipush 98, 2) := by decide +kernel
theorem dX10_fight_9 : decode cX10_fight 9 = .ok (.iaload, 1) := by decide +kernel
theorem dX10_fight_10 : decode cX10_fight 10 = .ok (.if_icmp .ge 33, 3) := by decide +kernel
theorem dX10_fight_13 : decode cX10_fight 13 = .ok (.aload_n 0, 1) := by decide +kernel
theorem dX10_fight_14 : decode cX10_fight 14 = .ok (.iload_n 1, 1) := by decide +kernel
theorem dX10_fight_15 : decode cX10_fight 15 = .ok (.bipush 6, 2) := by decide +kernel
theorem dX10_fight_17 : decode cX10_fight 17 = .ok (.aload_n 0, 1) := by decide +kernel
theorem dX10_fight_18 : decode cX10_fight 18 = .ok (.iload_n 1, 1) := by decide +kernel
theorem dX10_fight_19 : decode cX10_fight 19 = .ok (.invokevirtual 50, 3) := by decide +kernel
theorem dX10_fight_22 : decode cX10_fight 22 = .ok (.ifCond .eq 7, 3) := by decide +kernel
theorem dX10_fight_25 : decode cX10_fight 25 = .ok (.iconst 0, 1) := by decide +kernel
theorem dX10_fight_26 : decode cX10_fight 26 = .ok (.goto 8, 3) := by decide +kernel
theorem dX10_fight_29 : decode cX10_fight 29 = .ok (.aload_n 0, 1) := by decide +kernel
theorem dX10_fight_30 : decode cX10_fight 30 = .ok (.iload_n 1, 1) := by decide +kernel
theorem dX10_fight_31 : decode cX10_fight 31 = .ok (.invokevirtual 102, 3) := by decide +kernel
theorem dX10_fight_34 : decode cX10_fight 34 = .ok (.invokevirtual 80, 3) := by decide +kernel
theorem dX10_fight_37 : decode cX10_fight 37 = .ok (.iinc 1 1, 3) := by decide +kernel
theorem dX10_fight_40 : decode cX10_fight 40 = .ok (.goto (-38), 3) := by decide +kernel
theorem dX10_fight_43 : decode cX10_fight 43 = .ok (.iconst 0, 1) := by decide +kernel
theorem dX10_fight_44 : decode cX10_fight 44 = .ok (.istore_n 1, 1) := by decide +kernel
theorem dX10_fight_45 : decode cX10_fight 45 = .ok (.iload_n 1, 1) := by decide +kernel
theorem dX10_fight_46 : decode cX10_fight 46 = .ok (.aload_n 0, 1) := by decide +kernel
theorem dX10_fight_47 : decode cX10_fight 47 = .ok (.getfield 7, 3) := by decide +kernel
theorem dX10_fight_50 : decode cX10_fight 50 = .ok (.bipush 98, 2) := by decide +kernel
theorem dX10_fight_52 : decode cX10_fight 52 = .ok (.iaload, 1) := by decide +kernel
theorem dX10_fight_53 : decode cX10_fight 53 = .ok (.if_icmp .ge 79, 3) := by decide +kernel
theorem dX10_fight_56 : decode cX10_fight 56 = .ok (.aload_n 0, 1) := by decide +kernel
theorem dX10_fight_57 : decode cX10_fight 57 = .ok (.iload_n 1, 1) := by decide +kernel
theorem dX10_fight_58 : decode cX10_fight 58 = .ok (.iconst 2, 1) := by decide +kernel
theorem dX10_fight_59 : decode cX10_fight 59 = .ok (.aload_n 0, 1) := by decide +kernel
theorem dX10_fight_60 : decode cX10_fight 60 = .ok (.iload_n 1, 1) := by decide +kernel
theorem dX10_fight_61 : decode cX10_fight 61 = .ok (.iconst 2, 1) := by decide +kernel
theorem dX10_fight_62 : decode cX10_fight 62 = .ok (.invokevirtual 39, 3) := by decide +kernel
theorem dX10_fight_65 : decode cX10_fight 65 = .ok (.aload_n 0, 1) := by decide +kernel
theorem dX10_fight_66 : decode cX10_fight 66 = .ok (.iload_n 1, 1) := by decide +kernel
theorem dX10_fight_67 : decode cX10_fight 67 = .ok (.bipush 6, 2) := by decide +kernel
theorem dX10_fight_69 : decode cX10_fight 69 = .ok (.invokevirtual 39, 3) := by decide +kernel
theorem dX10_fight_72 : decode cX10_fight 72 = .ok (.isub, 1) := by decide +kernel
theorem dX10_fight_73 : decode cX10_fight 73 = .ok (.invokevirtual 80, 3) := by decide +kernel
theorem dX10_fight_76 : decode cX10_fight 76 = .ok (.aload_n 0, 1) := by decide +kernel
theorem dX10_fight_77 : decode cX10_fight 77 = .ok (.getfield 7, 3) := by decide +kernel
theorem dX10_fight_80 : decode cX10_fight 80 = .ok (.sipush 319, 3) := by decide +kernel
theorem dX10_fight_83 : decode cX10_fight 83 = .ok (.aload_n 0, 1) := by decide +kernel
theorem dX10_fight_84 : decode cX10_fight 84 = .ok (.iload_n 1, 1) := by decide +kernel
theorem dX10_fight_85 : decode cX10_fight 85 = .ok (.iconst 0, 1) := by decide +kernel
theorem dX10_fight_86 : decode cX10_fight 86 = .ok (.invokevirtual 39, 3) := by decide +kernel
theorem dX10_fight_89 : decode cX10_fight 89 = .ok (.iadd, 1) := by decide +kernel
theorem dX10_fight_90 : decode cX10_fight 90 = .ok (.dup2, 1) := by decide +kernel
theorem dX10_fight_91 : decode cX10_fight 91 = .ok (.iaload, 1) := by decide +kernel
theorem dX10_fight_92 : decode cX10_fight 92 = .ok (.aload_n 0, 1) := by decide +kernel
theorem dX10_fight_93 : decode cX10_fight 93 = .ok (.iload_n 1, 1) := by decide +kernel
theorem dX10_fight_94 : decode cX10_fight 94 = .ok (.bipush 6, 2) := by decide +kernel
theorem dX10_fight_96 : decode cX10_fight 96 = .ok (.invokevirtual 39, 3) := by decide +kernel
theorem dX10_fight_99 : decode cX10_fight 99 = .ok (.iadd, 1) := by decide +kernel
theorem dX10_fight_100 : decode cX10_fight 100 = .ok (.iastore, 1) := by decide +kernel
theorem dX10_fight_101 : decode cX10_fight 101 = .ok (.aload_n 0, 1) := by decide +kernel
theorem dX10_fight_102 : decode cX10_fight 102 = .ok (.iload_n 1, 1) := by decide +kernel
theorem dX10_fight_103 : decode cX10_fight 103 = .ok (.iconst 4, 1) := by decide +kernel
theorem dX10_fight_104 : decode cX10_fight 104 = .ok (.aload_n 0, 1) := by decide +kernel
theorem dX10_fight_105 : decode cX10_fight 105 = .ok (.iload_n 1, 1) := by decide +kernel
theorem dX10_fight_106 : decode cX10_fight 106 = .ok (.iconst 2, 1) := by decide +kernel
theorem dX10_fight_107 : decode cX10_fight 107 = .ok (.invokevirtual 39, 3) := by decide +kernel
theorem dX10_fight_110 : decode cX10_fight 110 = .ok (.ifCond .ne 7, 3) := by decide +kernel
theorem dX10_fight_113 : decode cX10_fight 113 = .ok (.iconst 2, 1) := by decide +kernel
theorem dX10_fight_114 : decode cX10_fight 114 = .ok (.goto 9, 3) := by decide +kernel
theorem dX10_fight_117 : decode cX10_fight 117 = .ok (.aload_n 0, 1) := by decide +kernel
theorem dX10_fight_118 : decode cX10_fight 118 = .ok (.iload_n 1, 1) := by decide +kernel
theorem dX10_fight_119 : decode cX10_fight 119 = .ok (.iconst 4, 1) := by decide +kernel
theorem dX10_fight_120 : decode cX10_fight 120 = .ok (.invokevirtual 39, 3) := by decide +kernel
theorem dX10_fight_123 : decode cX10_fight 123 = .ok (.invokevirtual 80, 3) := by decide +kernel
theorem dX10_fight_126 : decode cX10_fight 126 = .ok (.iinc 1 1, 3) := by decide +kernel
theorem dX10_fight_129 : decode cX10_fight 129 = .ok (.goto (-84), 3) := by decide +kernel
theorem dX10_fight_132 : decode cX10_fight 132 = .ok (.return_, 1) := by decide +kernel
theorem dX10_seesEnemy_0 : decode cX10_seesEnemy 0 = .ok (.iconst 0, 1) := by decide +kernel
theorem dX10_seesEnemy_1 : decode cX10_seesEnemy 1 = .ok (.istore_n 2, 1) := by decide +kernel
theorem dX10_seesEnemy_2 : decode cX10_seesEnemy 2 = .ok (.iconst 0, 1) := by decide +kernel
theorem dX10_seesEnemy_3 : decode cX10_seesEnemy 3 = .ok (.istore_n 3, 1) := by decide +kernel
theorem dX10_seesEnemy_4 : decode cX10_seesEnemy 4 = .ok (.iload_n 3, 1) := by decide +kernel
theorem dX10_seesEnemy_5 : decode cX10_seesEnemy 5 = .ok (.aload_n 0, 1) := by decide +kernel
theorem dX10_seesEnemy_6 : decode cX10_seesEnemy 6 = .ok (.getfield 7, 3) := by decide +kernel
theorem dX10_seesEnemy_9 : decode cX10_seesEnemy 9 = .ok (.bipush 98, 2) := by decide +kernel
theorem dX10_seesEnemy_11 : decode cX10_seesEnemy 11 = .ok (.iaload, 1) := by decide +kernel
theorem dX10_seesEnemy_12 : decode cX10_seesEnemy 12 = .ok (.if_icmp .ge 61, 3) := by decide +kernel
theorem dX10_seesEnemy_15 : decode cX10_seesEnemy 15 = .ok (.iload_n 2, 1) := by decide +kernel
theorem dX10_seesEnemy_16 : decode cX10_seesEnemy 16 = .ok (.ifCond .ne 45, 3) := by decide +kernel
theorem dX10_seesEnemy_19 : decode cX10_seesEnemy 19 = .ok (.aload_n 0, 1) := by decide +kernel
theorem dX10_seesEnemy_20 : decode cX10_seesEnemy 20 = .ok (.iload_n 3, 1) := by decide +kernel
theorem dX10_seesEnemy_21 : decode cX10_seesEnemy 21 = .ok (.invokevirtual 50, 3) := by decide +kernel
theorem dX10_seesEnemy_24 : decode cX10_seesEnemy 24 = .ok (.ifCond .ne 41, 3) := by decide +kernel
theorem dX10_seesEnemy_27 : decode cX10_seesEnemy 27 = .ok (.aload_n 0, 1) := by decide +kernel
theorem dX10_seesEnemy_28 : decode cX10_seesEnemy 28 = .ok (.iload_n 3, 1) := by decide +kernel
theorem dX10_seesEnemy_29 : decode cX10_seesEnemy 29 = .ok (.iconst 0, 1) := by decide +kernel
theorem dX10_seesEnemy_30 : decode cX10_seesEnemy 30 = .ok (.invokevirtual 39, 3) := by decide +kernel
theorem dX10_seesEnemy_33 : decode cX10_seesEnemy 33 = .ok (.aload_n 0, 1) := by decide +kernel
theorem dX10_seesEnemy_34 : decode cX10_seesEnemy 34 = .ok (.iload_n 1, 1) := by decide +kernel
theorem dX10_seesEnemy_35 : decode cX10_seesEnemy 35 = .ok (.iconst 0, 1) := by decide +kernel
theorem dX10_seesEnemy_36 : decode cX10_seesEnemy 36 = .ok (.invokevirtual 39, 3) := by decide +kernel
theorem dX10_seesEnemy_39 : decode cX10_seesEnemy 39 = .ok (.if_icmp .eq 26, 3) := by decide +kernel
theorem dX10_seesEnemy_42 : decode cX10_seesEnemy 42 = .ok (.aload_n 0, 1) := by decide +kernel
theorem dX10_seesEnemy_43 : decode cX10_seesEnemy 43 = .ok (.aload_n 0, 1) := by decide +kernel
theorem dX10_seesEnemy_44 : decode cX10_seesEnemy 44 = .ok (.iload_n 1, 1) := by decide +kernel
theorem dX10_seesEnemy_45 : decode cX10_seesEnemy 45 = .ok (.iconst 1, 1) := by decide +kernel
theorem dX10_seesEnemy_46 : decode cX10_seesEnemy 46 = .ok (.invokevirtual 39, 3) := by decide +kernel
theorem dX10_seesEnemy_49 : decode cX10_seesEnemy 49 = .ok (.aload_n 0, 1) := by decide +kernel
theorem dX10_seesEnemy_50 : decode cX10_seesEnemy 50 = .ok (.iload_n 3, 1) := by decide +kernel
theorem dX10_seesEnemy_51 : decode cX10_seesEnemy 51 = .ok (.iconst 1, 1) := by decide +kernel
theorem dX10_seesEnemy_52 : decode cX10_seesEnemy 52 = .ok (.invokevirtual 39, 3) := by decide +kernel
theorem dX10_seesEnemy_55 : decode cX10_seesEnemy 55 = .ok (.invokevirtual 64, 3) := by decide +kernel
theorem dX10_seesEnemy_58 : decode cX10_seesEnemy 58 = .ok (.ifCond .eq 7, 3) := by decide +kernel
theorem dX10_seesEnemy_61 : decode cX10_seesEnemy 61 = .ok (.iconst 1, 1) := by decide +kernel
theorem dX10_seesEnemy_62 : decode cX10_seesEnemy 62 = .ok (.goto 4, 3) := by decide +kernel
theorem dX10_seesEnemy_65 : decode cX10_seesEnemy 65 = .ok (.iconst 0, 1) := by decide +kernel
theorem dX10_seesEnemy_66 : decode cX10_seesEnemy 66 = .ok (.istore_n 2, 1) := by decide +kernel
theorem dX10_seesEnemy_67 : decode cX10_seesEnemy 67 = .ok (.iinc 3 1, 3) := by decide +kernel
theorem dX10_seesEnemy_70 : decode cX10_seesEnemy 70 = .ok (.goto (-66), 3) := by decide +kernel
theorem dX10_seesEnemy_73 : decode cX10_seesEnemy 73 = .ok (.iload_n 2, 1) := by decide +kernel
theorem dX10_seesEnemy_74 : decode cX10_seesEnemy 74 = .ok (.ireturn, 1) := by decide +kernel
theorem dX10_settle_0 : decode cX10_settle 0 = .ok (.aload_n 0, 1) := by decide +kernel
theorem dX10_settle_1 : decode cX10_settle 1 = .ok (.iload_n 1, 1) := by decide +kernel
theorem dX10_settle_2 : decode cX10_settle 2 = .ok (.iconst 4, 1) := by decide +kernel
theorem dX10_settle_3 : decode cX10_settle 3 = .ok (.invokevirtual 39, 3) := by decide +kernel
theorem dX10_settle_6 : decode cX10_settle 6 = .ok (.ifCond .ne 40, 3) := by decide +kernel
theorem dX10_settle_9 : decode cX10_settle 9 = .ok (.aload_n 0, 1) := by decide +kernel
theorem dX10_settle_10 : decode cX10_settle 10 = .ok (.iload_n 1, 1) := by decide +kernel
theorem dX10_settle_11 : decode cX10_settle 11 = .ok (.bipush 6, 2) := by decide +kernel
theorem dX10_settle_13 : decode cX10_settle 13 = .ok (.invokevirtual 39, 3) := by decide +kernel
theorem dX10_settle_16 : decode cX10_settle 16 = .ok (.ifCond .le 30, 3) := by decide +kernel
theorem dX10_settle_19 : decode cX10_settle 19 = .ok (.iconst 2, 1) := by decide +kernel
theorem dX10_settle_20 : decode cX10_settle 20 = .ok (.aload_n 0, 1) := by decide +kernel
theorem dX10_settle_21 : decode cX10_settle 21 = .ok (.iload_n 1, 1) := by decide +kernel
theorem dX10_settle_22 : decode cX10_settle 22 = .ok (.iconst 2, 1) := by decide +kernel
theorem dX10_settle_23 : decode cX10_settle 23 = .ok (.invokevirtual 39, 3) := by decide +kernel
theorem dX10_settle_26 : decode cX10_settle 26 = .ok (.imul, 1) := by decide +kernel
theorem dX10_settle_27 : decode cX10_settle 27 = .ok (.aload_n 0, 1) := by decide +kernel
theorem dX10_settle_28 : decode cX10_settle 28 = .ok (.iload_n 1, 1) := by decide +kernel
theorem dX10_settle_29 : decode cX10_settle 29 = .ok (.iconst 5, 1) := by decide +kernel
theorem dX10_settle_30 : decode cX10_settle 30 = .ok (.invokevirtual 39, 3) := by decide +kernel
theorem dX10_settle_33 : decode cX10_settle 33 = .ok (.if_icmp .gt 13, 3) := by decide +kernel
theorem dX10_settle_36 : decode cX10_settle 36 = .ok (.aload_n 0, 1) := by decide +kernel
theorem dX10_settle_37 : decode cX10_settle 37 = .ok (.iload_n 1, 1) := by decide +kernel
theorem dX10_settle_38 : decode cX10_settle 38 = .ok (.iconst 4, 1) := by decide +kernel
theorem dX10_settle_39 : decode cX10_settle 39 = .ok (.iconst 1, 1) := by decide +kernel
theorem dX10_settle_40 : decode cX10_settle 40 = .ok (.invokevirtual 80, 3) := by decide +kernel
theorem dX10_settle_43 : decode cX10_settle 43 = .ok (.goto 50, 3) := by decide +kernel
theorem dX10_settle_46 : decode cX10_settle 46 = .ok (.aload_n 0, 1) := by decide +kernel
theorem dX10_settle_47 : decode cX10_settle 47 = .ok (.iload_n 1, 1) := by decide +kernel
theorem dX10_settle_48 : decode cX10_settle 48 = .ok (.iconst 4, 1) := by decide +kernel
theorem dX10_settle_49 : decode cX10_settle 49 = .ok (.invokevirtual 39, 3) := by decide +kernel
theorem dX10_settle_52 : decode cX10_settle 52 = .ok (.iconst 1, 1) := by decide +kernel
theorem dX10_settle_53 : decode cX10_settle 53 = .ok (.if_icmp .ne 40, 3) := by decide +kernel
theorem dX10_settle_56 : decode cX10_settle 56 = .ok (.aload_n 0, 1) := by decide +kernel
theorem dX10_settle_57 : decode cX10_settle 57 = .ok (.iload_n 1, 1) := by decide +kernel
theorem dX10_settle_58 : decode cX10_settle 58 = .ok (.bipush 6, 2) := by decide +kernel
theorem dX10_settle_60 : decode cX10_settle 60 = .ok (.invokevirtual 39, 3) := by decide +kernel
theorem dX10_settle_63 : decode cX10_settle 63 = .ok (.ifCond .ne 30, 3) := by decide +kernel
theorem dX10_settle_66 : decode cX10_settle 66 = .ok (.aload_n 0, 1) := by decide +kernel
theorem dX10_settle_67 : decode cX10_settle 67 = .ok (.iload_n 1, 1) := by decide +kernel
theorem dX10_settle_68 : decode cX10_settle 68 = .ok (.invokevirtual 105, 3) := by decide +kernel
theorem dX10_settle_71 : decode cX10_settle 71 = .ok (.ifCond .ne 22, 3) := by decide +kernel
theorem dX10_settle_74 : decode cX10_settle 74 = .ok (.aload_n 0, 1) := by decide +kernel
theorem dX10_settle_75 : decode cX10_settle 75 = .ok (.iload_n 1, 1) := by decide +kernel
theorem dX10_settle_76 : decode cX10_settle 76 = .ok (.iconst 4, 1) := by decide +kernel
theorem dX10_settle_77 : decode cX10_settle 77 = .ok (.iconst 0, 1) := by decide +kernel
theorem dX10_settle_78 : decode cX10_settle 78 = .ok (.invokevirtual 80, 3) := by decide +kernel
theorem dX10_settle_81 : decode cX10_settle 81 = .ok (.aload_n 0, 1) := by decide +kernel
theorem dX10_settle_82 : decode cX10_settle 82 = .ok (.iload_n 1, 1) := by decide +kernel
theorem dX10_settle_83 : decode cX10_settle 83 = .ok (.iconst 3, 1) := by decide +kernel
theorem dX10_settle_84 : decode cX10_settle 84 = .ok (.aload_n 0, 1) := by decide +kernel
theorem dX10_settle_85 : decode cX10_settle 85 = .ok (.iload_n 1, 1) := by decide +kernel
theorem dX10_settle_86 : decode cX10_settle 86 = .ok (.iconst 1, 1) := by decide +kernel
theorem dX10_settle_87 : decode cX10_settle 87 = .ok (.invokevirtual 39, 3) := by decide +kernel
theorem dX10_settle_90 : decode cX10_settle 90 = .ok (.invokevirtual 80, 3) := by decide +kernel
theorem dX10_settle_93 : decode cX10_settle 93 = .ok (.return_, 1) := by decide +kernel
theorem dX10_passOne_0 : decode cX10_passOne 0 = .ok (.aload_n 0, 1) := by decide +kernel
theorem dX10_passOne_1 : decode cX10_passOne 1 = .ok (.getfield 7, 3) := by decide +kernel
theorem dX10_passOne_4 : decode cX10_passOne 4 = .ok (.sipush 316, 3) := by decide +kernel
theorem dX10_passOne_7 : decode cX10_passOne 7 = .ok (.dup2, 1) := by decide +kernel
theorem dX10_passOne_8 : decode cX10_passOne 8 = .ok (.iaload, 1) := by decide +kernel
theorem dX10_passOne_9 : decode cX10_passOne 9 = .ok (.iconst 1, 1) := by decide +kernel
theorem dX10_passOne_10 : decode cX10_passOne 10 = .ok (.iadd, 1) := by decide +kernel
theorem dX10_passOne_11 : decode cX10_passOne 11 = .ok (.iastore, 1) := by decide +kernel
theorem dX10_passOne_12 : decode cX10_passOne 12 = .ok (.aload_n 0, 1) := by decide +kernel
theorem dX10_passOne_13 : decode cX10_passOne 13 = .ok (.invokevirtual 108, 3) := by decide +kernel
theorem dX10_passOne_16 : decode cX10_passOne 16 = .ok (.iconst 0, 1) := by decide +kernel
theorem dX10_passOne_17 : decode cX10_passOne 17 = .ok (.istore_n 1, 1) := by decide +kernel
theorem dX10_passOne_18 : decode cX10_passOne 18 = .ok (.iload_n 1, 1) := by decide +kernel
theorem dX10_passOne_19 : decode cX10_passOne 19 = .ok (.aload_n 0, 1) := by decide +kernel
theorem dX10_passOne_20 : decode cX10_passOne 20 = .ok (.getfield 7, 3) := by decide +kernel
theorem dX10_passOne_23 : decode cX10_passOne 23 = .ok (.bipush 98, 2) := by decide +kernel
theorem dX10_passOne_25 : decode cX10_passOne 25 = .ok (.iaload, 1) := by decide +kernel
theorem dX10_passOne_26 : decode cX10_passOne 26 = .ok (.if_icmp .ge 14, 3) := by decide +kernel
theorem dX10_passOne_29 : decode cX10_passOne 29 = .ok (.aload_n 0, 1) := by decide +kernel
theorem dX10_passOne_30 : decode cX10_passOne 30 = .ok (.iload_n 1, 1) := by decide +kernel
theorem dX10_passOne_31 : decode cX10_passOne 31 = .ok (.invokevirtual 111, 3) := by decide +kernel
theorem dX10_passOne_34 : decode cX10_passOne 34 = .ok (.iinc 1 1, 3) := by decide +kernel
theorem dX10_passOne_37 : decode cX10_passOne 37 = .ok (.goto (-19), 3) := by decide +kernel
theorem dX10_passOne_40 : decode cX10_passOne 40 = .ok (.aload_n 0, 1) := by decide +kernel
theorem dX10_passOne_41 : decode cX10_passOne 41 = .ok (.invokevirtual 115, 3) := by decide +kernel
theorem dX10_passOne_44 : decode cX10_passOne 44 = .ok (.iconst 0, 1) := by decide +kernel
theorem dX10_passOne_45 : decode cX10_passOne 45 = .ok (.istore_n 1, 1) := by decide +kernel
theorem dX10_passOne_46 : decode cX10_passOne 46 = .ok (.iload_n 1, 1) := by decide +kernel
theorem dX10_passOne_47 : decode cX10_passOne 47 = .ok (.aload_n 0, 1) := by decide +kernel
theorem dX10_passOne_48 : decode cX10_passOne 48 = .ok (.getfield 7, 3) := by decide +kernel
theorem dX10_passOne_51 : decode cX10_passOne 51 = .ok (.bipush 98, 2) := by decide +kernel
theorem dX10_passOne_53 : decode cX10_passOne 53 = .ok (.iaload, 1) := by decide +kernel
theorem dX10_passOne_54 : decode cX10_passOne 54 = .ok (.if_icmp .ge 14, 3) := by decide +kernel
theorem dX10_passOne_57 : decode cX10_passOne 57 = .ok (.aload_n 0, 1) := by decide +kernel
theorem dX10_passOne_58 : decode cX10_passOne 58 = .ok (.iload_n 1, 1) := by decide +kernel
theorem dX10_passOne_59 : decode cX10_passOne 59 = .ok (.invokevirtual 118, 3) := by decide +kernel
theorem dX10_passOne_62 : decode cX10_passOne 62 = .ok (.iinc 1 1, 3) := by decide +kernel
theorem dX10_passOne_65 : decode cX10_passOne 65 = .ok (.goto (-19), 3) := by decide +kernel
theorem dX10_passOne_68 : decode cX10_passOne 68 = .ok (.return_, 1) := by decide +kernel
theorem dX10_pass_0 : decode cX10_pass 0 = .ok (.aload_n 0, 1) := by decide +kernel
theorem dX10_pass_1 : decode cX10_pass 1 = .ok (.iload_n 1, 1) := by decide +kernel
theorem dX10_pass_2 : decode cX10_pass 2 = .ok (.iconst 1, 1) := by decide +kernel
theorem dX10_pass_3 : decode cX10_pass 3 = .ok (.bipush 50, 2) := by decide +kernel
theorem dX10_pass_5 : decode cX10_pass 5 = .ok (.invokestatic 35, 3) := by decide +kernel
theorem dX10_pass_8 : decode cX10_pass 8 = .ok (.ifCond .ne 7, 3) := by decide +kernel
theorem dX10_pass_11 : decode cX10_pass 11 = .ok (.iconst 1, 1) := by decide +kernel
theorem dX10_pass_12 : decode cX10_pass 12 = .ok (.goto 24, 3) := by decide +kernel
theorem dX10_pass_15 : decode cX10_pass 15 = .ok (.aload_n 0, 1) := by decide +kernel
theorem dX10_pass_16 : decode cX10_pass 16 = .ok (.getfield 7, 3) := by decide +kernel
theorem dX10_pass_19 : decode cX10_pass 19 = .ok (.sipush 316, 3) := by decide +kernel
theorem dX10_pass_22 : decode cX10_pass 22 = .ok (.iaload, 1) := by decide +kernel
theorem dX10_pass_23 : decode cX10_pass 23 = .ok (.iload_n 1, 1) := by decide +kernel
theorem dX10_pass_24 : decode cX10_pass 24 = .ok (.iadd, 1) := by decide +kernel
theorem dX10_pass_25 : decode cX10_pass 25 = .ok (.sipush 1000, 3) := by decide +kernel
theorem dX10_pass_28 : decode cX10_pass 28 = .ok (.if_icmp .le 7, 3) := by decide +kernel
theorem dX10_pass_31 : decode cX10_pass 31 = .ok (.iconst 2, 1) := by decide +kernel
theorem dX10_pass_32 : decode cX10_pass 32 = .ok (.goto 4, 3) := by decide +kernel
theorem dX10_pass_35 : decode cX10_pass 35 = .ok (.iconst 0, 1) := by decide +kernel
theorem dX10_pass_36 : decode cX10_pass 36 = .ok (.putfield 31, 3) := by decide +kernel
theorem dX10_pass_39 : decode cX10_pass 39 = .ok (.aload_n 0, 1) := by decide +kernel
theorem dX10_pass_40 : decode cX10_pass 40 = .ok (.getfield 31, 3) := by decide +kernel
theorem dX10_pass_43 : decode cX10_pass 43 = .ok (.ifCond .le 5, 3) := by decide +kernel
theorem dX10_pass_46 : decode cX10_pass 46 = .ok (.iconst 0, 1) := by decide +kernel
theorem dX10_pass_47 : decode cX10_pass 47 = .ok (.ireturn, 1) := by decide +kernel
theorem dX10_pass_48 : decode cX10_pass 48 = .ok (.aload_n 0, 1) := by decide +kernel
theorem dX10_pass_49 : decode cX10_pass 49 = .ok (.invokevirtual 74, 3) := by decide +kernel
theorem dX10_pass_52 : decode cX10_pass 52 = .ok (.aload_n 0, 1) := by decide +kernel
theorem dX10_pass_53 : decode cX10_pass 53 = .ok (.getfield 7, 3) := by decide +kernel
theorem dX10_pass_56 : decode cX10_pass 56 = .ok (.sipush 319, 3) := by decide +kernel
theorem dX10_pass_59 : decode cX10_pass 59 = .ok (.iaload, 1) := by decide +kernel
theorem dX10_pass_60 : decode cX10_pass 60 = .ok (.aload_n 0, 1) := by decide +kernel
theorem dX10_pass_61 : decode cX10_pass 61 = .ok (.getfield 7, 3) := by decide +kernel
theorem dX10_pass_64 : decode cX10_pass 64 = .ok (.sipush 320, 3) := by decide +kernel
theorem dX10_pass_67 : decode cX10_pass 67 = .ok (.iaload, 1) := by decide +kernel
theorem dX10_pass_68 : decode cX10_pass 68 = .ok (.iadd, 1) := by decide +kernel
theorem dX10_pass_69 : decode cX10_pass 69 = .ok (.istore_n 2, 1) := by decide +kernel
theorem dX10_pass_70 : decode cX10_pass 70 = .ok (.iconst 0, 1) := by decide +kernel
theorem dX10_pass_71 : decode cX10_pass 71 = .ok (.istore_n 3, 1) := by decide +kernel
theorem dX10_pass_72 : decode cX10_pass 72 = .ok (.iload_n 3, 1) := by decide +kernel
theorem dX10_pass_73 : decode cX10_pass 73 = .ok (.iload_n 1, 1) := by decide +kernel
theorem dX10_pass_74 : decode cX10_pass 74 = .ok (.if_icmp .ge 13, 3) := by decide +kernel
theorem dX10_pass_77 : decode cX10_pass 77 = .ok (.aload_n 0, 1) := by decide +kernel
theorem dX10_pass_78 : decode cX10_pass 78 = .ok (.invokevirtual 121, 3) := by decide +kernel
theorem dX10_pass_81 : decode cX10_pass 81 = .ok (.iinc 3 1, 3) := by decide +kernel
theorem dX10_pass_84 : decode cX10_pass 84 = .ok (.goto (-12), 3) := by decide +kernel
theorem dX10_pass_87 : decode cX10_pass 87 = .ok (.aload_n 0, 1) := by decide +kernel
theorem dX10_pass_88 : decode cX10_pass 88 = .ok (.getfield 7, 3) := by decide +kernel
theorem dX10_pass_91 : decode cX10_pass 91 = .ok (.sipush 319, 3) := by decide +kernel
theorem dX10_pass_94 : decode cX10_pass 94 = .ok (.iaload, 1) := by decide +kernel
theorem dX10_pass_95 : decode cX10_pass 95 = .ok (.aload_n 0, 1) := by decide +kernel
theorem dX10_pass_96 : decode cX10_pass 96 = .ok (.getfield 7, 3) := by decide +kernel
theorem dX10_pass_99 : decode cX10_pass 99 = .ok (.sipush 320, 3) := by decide +kernel
theorem dX10_pass_102 : decode cX10_pass 102 = .ok (.iaload, 1) := by decide +kernel
theorem dX10_pass_103 : decode cX10_pass 103 = .ok (.iadd, 1) := by decide +kernel
theorem dX10_pass_104 : decode cX10_pass 104 = .ok (.iload_n 2, 1) := by decide +kernel
theorem dX10_pass_105 : decode cX10_pass 105 = .ok (.isub, 1) := by decide +kernel
theorem dX10_pass_106 : decode cX10_pass 106 = .ok (.ireturn, 1) := by decide +kernel
theorem dX10_append_0 : decode cX10_append 0 = .ok (.aload_n 0, 1) := by decide +kernel
theorem dX10_append_1 : decode cX10_append 1 = .ok (.iload_n 1, 1) := by decide +kernel
theorem dX10_append_2 : decode cX10_append 2 = .ok (.bipush 33, 2) := by decide +kernel
theorem dX10_append_4 : decode cX10_append 4 = .ok (.bipush 126, 2) := by decide +kernel
theorem dX10_append_6 : decode cX10_append 6 = .ok (.invokestatic 35, 3) := by decide +kernel
theorem dX10_append_9 : decode cX10_append 9 = .ok (.ifCond .ne 7, 3) := by decide +kernel
theorem dX10_append_12 : decode cX10_append 12 = .ok (.iconst 1, 1) := by decide +kernel
theorem dX10_append_13 : decode cX10_append 13 = .ok (.goto 17, 3) := by decide +kernel
theorem dX10_append_16 : decode cX10_append 16 = .ok (.aload_n 0, 1) := by decide +kernel
theorem dX10_append_17 : decode cX10_append 17 = .ok (.getfield 124, 3) := by decide +kernel
theorem dX10_append_20 : decode cX10_append 20 = .ok (.bipush 60, 2) := by decide +kernel
theorem dX10_append_22 : decode cX10_append 22 = .ok (.if_icmp .ne 7, 3) := by decide +kernel
theorem dX10_append_25 : decode cX10_append 25 = .ok (.iconst 2, 1) := by decide +kernel
theorem dX10_append_26 : decode cX10_append 26 = .ok (.goto 4, 3) := by decide +kernel
theorem dX10_append_29 : decode cX10_append 29 = .ok (.iconst 0, 1) := by decide +kernel
theorem dX10_append_30 : decode cX10_append 30 = .ok (.putfield 31, 3) := by decide +kernel
theorem dX10_append_33 : decode cX10_append 33 = .ok (.aload_n 0, 1) := by decide +kernel
theorem dX10_append_34 : decode cX10_append 34 = .ok (.getfield 31, 3) := by decide +kernel
theorem dX10_append_37 : decode cX10_append 37 = .ok (.ifCond .le 5, 3) := by decide +kernel
theorem dX10_append_40 : decode cX10_append 40 = .ok (.iconst 0, 1) := by decide +kernel
theorem dX10_append_41 : decode cX10_append 41 = .ok (.ireturn, 1) := by decide +kernel
theorem dX10_append_42 : decode cX10_append 42 = .ok (.aload_n 0, 1) := by decide +kernel
theorem dX10_append_43 : decode cX10_append 43 = .ok (.getfield 16, 3) := by decide +kernel
theorem dX10_append_46 : decode cX10_append 46 = .ok (.aload_n 0, 1) := by decide +kernel
theorem dX10_append_47 : decode cX10_append 47 = .ok (.getfield 124, 3) := by decide +kernel
theorem dX10_append_50 : decode cX10_append 50 = .ok (.iload_n 1, 1) := by decide +kernel
theorem dX10_append_51 : decode cX10_append 51 = .ok (.iastore, 1) := by decide +kernel
theorem dX10_append_52 : decode cX10_append 52 = .ok (.aload_n 0, 1) := by decide +kernel
theorem dX10_append_53 : decode cX10_append 53 = .ok (.dup, 1) := by decide +kernel
theorem dX10_append_54 : decode cX10_append 54 = .ok (.getfield 124, 3) := by decide +kernel
theorem dX10_append_57 : decode cX10_append 57 = .ok (.iconst 1, 1) := by decide +kernel
theorem dX10_append_58 : decode cX10_append 58 = .ok (.iadd, 1) := by decide +kernel
theorem dX10_append_59 : decode cX10_append 59 = .ok (.putfield 124, 3) := by decide +kernel
theorem dX10_append_62 : decode cX10_append 62 = .ok (.aload_n 0, 1) := by decide +kernel
theorem dX10_append_63 : decode cX10_append 63 = .ok (.getfield 124, 3) := by decide +kernel
theorem dX10_append_66 : decode cX10_append 66 = .ok (.ireturn, 1) := by decide +kernel
theorem dX10_clearBuffer_0 : decode cX10_clearBuffer 0 = .ok (.aload_n 0, 1) := by decide +kernel
theorem dX10_clearBuffer_1 : decode cX10_clearBuffer 1 = .ok (.iconst 0, 1) := by decide +kernel
theorem dX10_clearBuffer_2 : decode cX10_clearBuffer 2 = .ok (.putfield 31, 3) := by decide +kernel
theorem dX10_clearBuffer_5 : decode cX10_clearBuffer 5 = .ok (.aload_n 0, 1) := by decide +kernel
theorem dX10_clearBuffer_6 : decode cX10_clearBuffer 6 = .ok (.getfield 124, 3) := by decide +kernel
theorem dX10_clearBuffer_9 : decode cX10_clearBuffer 9 = .ok (.istore_n 1, 1) := by decide +kernel
theorem dX10_clearBuffer_10 : decode cX10_clearBuffer 10 = .ok (.aload_n 0, 1) := by decide +kernel
theorem dX10_clearBuffer_11 : decode cX10_clearBuffer 11 = .ok (.iconst 0, 1) := by decide +kernel
theorem dX10_clearBuffer_12 : decode cX10_clearBuffer 12 = .ok (.putfield 124, 3) := by decide +kernel
theorem dX10_clearBuffer_15 : decode cX10_clearBuffer 15 = .ok (.iload_n 1, 1) := by decide +kernel
theorem dX10_clearBuffer_16 : decode cX10_clearBuffer 16 = .ok (.ireturn, 1) := by decide +kernel
theorem dX10_takesDigit_0 : decode cX10_takesDigit 0 = .ok (.iconst 3, 1) := by decide +kernel
theorem dX10_takesDigit_1 : decode cX10_takesDigit 1 = .ok (.aload_n 0, 1) := by decide +kernel
theorem dX10_takesDigit_2 : decode cX10_takesDigit 2 = .ok (.getfield 127, 3) := by decide +kernel
theorem dX10_takesDigit_5 : decode cX10_takesDigit 5 = .ok (.imul, 1) := by decide +kernel
theorem dX10_takesDigit_6 : decode cX10_takesDigit 6 = .ok (.aload_n 0, 1) := by decide +kernel
theorem dX10_takesDigit_7 : decode cX10_takesDigit 7 = .ok (.getfield 130, 3) := by decide +kernel
theorem dX10_takesDigit_10 : decode cX10_takesDigit 10 = .ok (.iadd, 1) := by decide +kernel
theorem dX10_takesDigit_11 : decode cX10_takesDigit 11 = .ok (.istore_n 2, 1) := by decide +kernel
theorem dX10_takesDigit_12 : decode cX10_takesDigit 12 = .ok (.aload_n 0, 1) := by decide +kernel
theorem dX10_takesDigit_13 : decode cX10_takesDigit 13 = .ok (.getfield 133, 3) := by decide +kernel
theorem dX10_takesDigit_16 : decode cX10_takesDigit 16 = .ok (.ifCond .ne 7, 3) := by decide +kernel
theorem dX10_takesDigit_19 : decode cX10_takesDigit 19 = .ok (.iload_n 1, 1) := by decide +kernel
theorem dX10_takesDigit_20 : decode cX10_takesDigit 20 = .ok (.goto 14, 3) := by decide +kernel
theorem dX10_takesDigit_23 : decode cX10_takesDigit 23 = .ok (.bipush 10, 2) := by decide +kernel
theorem dX10_takesDigit_25 : decode cX10_takesDigit 25 = .ok (.aload_n 0, 1) := by decide +kernel
theorem dX10_takesDigit_26 : decode cX10_takesDigit 26 = .ok (.getfield 28, 3) := by decide +kernel
theorem dX10_takesDigit_29 : decode cX10_takesDigit 29 = .ok (.iload_n 2, 1) := by decide +kernel
theorem dX10_takesDigit_30 : decode cX10_takesDigit 30 = .ok (.iaload, 1) := by decide +kernel
theorem dX10_takesDigit_31 : decode cX10_takesDigit 31 = .ok (.imul, 1) := by decide +kernel

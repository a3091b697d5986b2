theorem dX8_ordersFor_0 : decode cX8_ordersFor 0 = .ok (.iconst 0, 1) := by decide +kernel
theorem dX8_ordersFor_1 : decode cX8_ordersFor 1 = .ok (.istore_n 2, 1) := by decide +kernel
theorem dX8_ordersFor_2 : decode cX8_ordersFor 2 = .ok (.iconst 0, 1) := by decide +kernel
theorem dX8_ordersFor_3 : decode cX8_ordersFor 3 = .ok (.istore_n 3, 1) := by decide +kernel
theorem dX8_ordersFor_4 : decode cX8_ordersFor 4 = .ok (.iload_n 3, 1) := by decide +kernel
theorem dX8_ordersFor_5 : decode cX8_ordersFor 5 = .ok (.aload_n 0, 1) := by decide +kernel
theorem dX8_ordersFor_6 : decode cX8_ordersFor 6 = .ok (.getfield 50, 3) := by decide +kernel
theorem dX8_ordersFor_9 : decode cX8_ordersFor 9 = .ok (.if_icmp .ge 25, 3) := by decide +kernel
theorem dX8_ordersFor_12 : decode cX8_ordersFor 12 = .ok (.aload_n 0, 1) := by decide +kernel
theorem dX8_ordersFor_13 : decode cX8_ordersFor 13 = .ok (.getfield 30, 3) := by decide +kernel
theorem dX8_ordersFor_16 : decode cX8_ordersFor 16 = .ok (.iload_n 3, 1) := by decide +kernel
theorem dX8_ordersFor_17 : decode cX8_ordersFor 17 = .ok (.aaload, 1) := by decide +kernel
theorem dX8_ordersFor_18 : decode cX8_ordersFor 18 = .ok (.getfield 122, 3) := by decide +kernel
theorem dX8_ordersFor_21 : decode cX8_ordersFor 21 = .ok (.iload_n 1, 1) := by decide +kernel
theorem dX8_ordersFor_22 : decode cX8_ordersFor 22 = .ok (.if_icmp .ne 6, 3) := by decide +kernel
theorem dX8_ordersFor_25 : decode cX8_ordersFor 25 = .ok (.iinc 2 1, 3) := by decide +kernel
theorem dX8_ordersFor_28 : decode cX8_ordersFor 28 = .ok (.iinc 3 1, 3) := by decide +kernel
theorem dX8_ordersFor_31 : decode cX8_ordersFor 31 = .ok (.goto (-27), 3) := by decide +kernel
theorem dX8_ordersFor_34 : decode cX8_ordersFor 34 = .ok (.iload_n 2, 1) := by decide +kernel
theorem dX8_ordersFor_35 : decode cX8_ordersFor 35 = .ok (.ireturn, 1) := by decide +kernel
theorem dX8_troopFigure_0 : decode cX8_troopFigure 0 = .ok (.aload_n 0, 1) := by decide +kernel
theorem dX8_troopFigure_1 : decode cX8_troopFigure 1 = .ok (.getfield 24, 3) := by decide +kernel
theorem dX8_troopFigure_4 : decode cX8_troopFigure 4 = .ok (.iload_n 1, 1) := by decide +kernel
theorem dX8_troopFigure_5 : decode cX8_troopFigure 5 = .ok (.aaload, 1) := by decide +kernel
theorem dX8_troopFigure_6 : decode cX8_troopFigure 6 = .ok (.astore_n 3, 1) := by decide +kernel
theorem dX8_troopFigure_7 : decode cX8_troopFigure 7 = .ok (.iload_n 2, 1) := by decide +kernel
theorem dX8_troopFigure_8 : decode cX8_troopFigure 8 = .ok (.tableswitch 89 0 7 #[48, 53, 58, 63, 68, 73, 78, 83], 48) := by decide +kernel
theorem dX8_troopFigure_56 : decode cX8_troopFigure 56 = .ok (.aload_n 3, 1) := by decide +kernel
theorem dX8_troopFigure_57 : decode cX8_troopFigure 57 = .ok (.getfield 95, 3) := by decide +kernel
theorem dX8_troopFigure_60 : decode cX8_troopFigure 60 = .ok (.ireturn, 1) := by decide +kernel
theorem dX8_troopFigure_61 : decode cX8_troopFigure 61 = .ok (.aload_n 3, 1) := by decide +kernel
theorem dX8_troopFigure_62 : decode cX8_troopFigure 62 = .ok (.getfield 79, 3) := by decide +kernel
theorem dX8_troopFigure_65 : decode cX8_troopFigure 65 = .ok (.ireturn, 1) := by decide +kernel
theorem dX8_troopFigure_66 : decode cX8_troopFigure 66 = .ok (.aload_n 3, 1) := by decide +kernel
theorem dX8_troopFigure_67 : decode cX8_troopFigure 67 = .ok (.getfield 98, 3) := by decide +kernel
theorem dX8_troopFigure_70 : decode cX8_troopFigure 70 = .ok (.ireturn, 1) := by decide +kernel
theorem dX8_troopFigure_71 : decode cX8_troopFigure 71 = .ok (.aload_n 3, 1) := by decide +kernel
theorem dX8_troopFigure_72 : decode cX8_troopFigure 72 = .ok (.getfield 101, 3) := by decide +kernel
theorem dX8_troopFigure_75 : decode cX8_troopFigure 75 = .ok (.ireturn, 1) := by decide +kernel
theorem dX8_troopFigure_76 : decode cX8_troopFigure 76 = .ok (.aload_n 3, 1) := by decide +kernel
theorem dX8_troopFigure_77 : decode cX8_troopFigure 77 = .ok (.getfield 76, 3) := by decide +kernel
theorem dX8_troopFigure_80 : decode cX8_troopFigure 80 = .ok (.ireturn, 1) := by decide +kernel
theorem dX8_troopFigure_81 : decode cX8_troopFigure 81 = .ok (.aload_n 3, 1) := by decide +kernel
theorem dX8_troopFigure_82 : decode cX8_troopFigure 82 = .ok (.getfield 104, 3) := by decide +kernel
theorem dX8_troopFigure_85 : decode cX8_troopFigure 85 = .ok (.ireturn, 1) := by decide +kernel
theorem dX8_troopFigure_86 : decode cX8_troopFigure 86 = .ok (.aload_n 3, 1) := by decide +kernel
theorem dX8_troopFigure_87 : decode cX8_troopFigure 87 = .ok (.getfield 107, 3) := by decide +kernel
theorem dX8_troopFigure_90 : decode cX8_troopFigure 90 = .ok (.ireturn, 1) := by decide +kernel
theorem dX8_troopFigure_91 : decode cX8_troopFigure 91 = .ok (.aload_n 0, 1) := by decide +kernel
theorem dX8_troopFigure_92 : decode cX8_troopFigure 92 = .ok (.iload_n 1, 1) := by decide +kernel
theorem dX8_troopFigure_93 : decode cX8_troopFigure 93 = .ok (.invokevirtual 110, 3) := by decide +kernel
theorem dX8_troopFigure_96 : decode cX8_troopFigure 96 = .ok (.ireturn, 1) := by decide +kernel
theorem dX8_troopFigure_97 : decode cX8_troopFigure 97 = .ok (.aload_n 3, 1) := by decide +kernel
theorem dX8_troopFigure_98 : decode cX8_troopFigure 98 = .ok (.getfield 113, 3) := by decide +kernel
theorem dX8_troopFigure_101 : decode cX8_troopFigure 101 = .ok (.ireturn, 1) := by decide +kernel
theorem dX8_troopsThatAre_0 : decode cX8_troopsThatAre 0 = .ok (.iconst 0, 1) := by decide +kernel
theorem dX8_troopsThatAre_1 : decode cX8_troopsThatAre 1 = .ok (.istore_n 2, 1) := by decide +kernel
theorem dX8_troopsThatAre_2 : decode cX8_troopsThatAre 2 = .ok (.iconst 0, 1) := by decide +kernel
theorem dX8_troopsThatAre_3 : decode cX8_troopsThatAre 3 = .ok (.istore_n 3, 1) := by decide +kernel
theorem dX8_troopsThatAre_4 : decode cX8_troopsThatAre 4 = .ok (.iload_n 3, 1) := by decide +kernel
theorem dX8_troopsThatAre_5 : decode cX8_troopsThatAre 5 = .ok (.aload_n 0, 1) := by decide +kernel
theorem dX8_troopsThatAre_6 : decode cX8_troopsThatAre 6 = .ok (.getfield 43, 3) := by decide +kernel
theorem dX8_troopsThatAre_9 : decode cX8_troopsThatAre 9 = .ok (.if_icmp .ge 25, 3) := by decide +kernel
theorem dX8_troopsThatAre_12 : decode cX8_troopsThatAre 12 = .ok (.aload_n 0, 1) := by decide +kernel
theorem dX8_troopsThatAre_13 : decode cX8_troopsThatAre 13 = .ok (.getfield 24, 3) := by decide +kernel
theorem dX8_troopsThatAre_16 : decode cX8_troopsThatAre 16 = .ok (.iload_n 3, 1) := by decide +kernel
theorem dX8_troopsThatAre_17 : decode cX8_troopsThatAre 17 = .ok (.aaload, 1) := by decide +kernel
theorem dX8_troopsThatAre_18 : decode cX8_troopsThatAre 18 = .ok (.getfield 76, 3) := by decide +kernel
theorem dX8_troopsThatAre_21 : decode cX8_troopsThatAre 21 = .ok (.iload_n 1, 1) := by decide +kernel
theorem dX8_troopsThatAre_22 : decode cX8_troopsThatAre 22 = .ok (.if_icmp .ne 6, 3) := by decide +kernel
theorem dX8_troopsThatAre_25 : decode cX8_troopsThatAre 25 = .ok (.iinc 2 1, 3) := by decide +kernel
theorem dX8_troopsThatAre_28 : decode cX8_troopsThatAre 28 = .ok (.iinc 3 1, 3) := by decide +kernel
theorem dX8_troopsThatAre_31 : decode cX8_troopsThatAre 31 = .ok (.goto (-27), 3) := by decide +kernel
theorem dX8_troopsThatAre_34 : decode cX8_troopsThatAre 34 = .ok (.iload_n 2, 1) := by decide +kernel
theorem dX8_troopsThatAre_35 : decode cX8_troopsThatAre 35 = .ok (.ireturn, 1) := by decide +kernel
theorem dX8_strengthOf_0 : decode cX8_strengthOf 0 = .ok (.iconst 0, 1) := by decide +kernel
theorem dX8_strengthOf_1 : decode cX8_strengthOf 1 = .ok (.istore_n 2, 1) := by decide +kernel
theorem dX8_strengthOf_2 : decode cX8_strengthOf 2 = .ok (.iconst 0, 1) := by decide +kernel
theorem dX8_strengthOf_3 : decode cX8_strengthOf 3 = .ok (.istore_n 3, 1) := by decide +kernel
theorem dX8_strengthOf_4 : decode cX8_strengthOf 4 = .ok (.iload_n 3, 1) := by decide +kernel
theorem dX8_strengthOf_5 : decode cX8_strengthOf 5 = .ok (.aload_n 0, 1) := by decide +kernel
theorem dX8_strengthOf_6 : decode cX8_strengthOf 6 = .ok (.getfield 43, 3) := by decide +kernel
theorem dX8_strengthOf_9 : decode cX8_strengthOf 9 = .ok (.if_icmp .ge 34, 3) := by decide +kernel
theorem dX8_strengthOf_12 : decode cX8_strengthOf 12 = .ok (.aload_n 0, 1) := by decide +kernel
theorem dX8_strengthOf_13 : decode cX8_strengthOf 13 = .ok (.getfield 24, 3) := by decide +kernel
theorem dX8_strengthOf_16 : decode cX8_strengthOf 16 = .ok (.iload_n 3, 1) := by decide +kernel
theorem dX8_strengthOf_17 : decode cX8_strengthOf 17 = .ok (.aaload, 1) := by decide +kernel
theorem dX8_strengthOf_18 : decode cX8_strengthOf 18 = .ok (.getfield 95, 3) := by decide +kernel
theorem dX8_strengthOf_21 : decode cX8_strengthOf 21 = .ok (.iload_n 1, 1) := by decide +kernel
theorem dX8_strengthOf_22 : decode cX8_strengthOf 22 = .ok (.if_icmp .ne 15, 3) := by decide +kernel
theorem dX8_strengthOf_25 : decode cX8_strengthOf 25 = .ok (.iload_n 2, 1) := by decide +kernel
theorem dX8_strengthOf_26 : decode cX8_strengthOf 26 = .ok (.aload_n 0, 1) := by decide +kernel
theorem dX8_strengthOf_27 : decode cX8_strengthOf 27 = .ok (.getfield 24, 3) := by decide +kernel
theorem dX8_strengthOf_30 : decode cX8_strengthOf 30 = .ok (.iload_n 3, 1) := by decide +kernel
theorem dX8_strengthOf_31 : decode cX8_strengthOf 31 = .ok (.aaload, 1) := by decide +kernel
theorem dX8_strengthOf_32 : decode cX8_strengthOf 32 = .ok (.getfield 98, 3) := by decide +kernel
theorem dX8_strengthOf_35 : decode cX8_strengthOf 35 = .ok (.iadd, 1) := by decide +kernel
theorem dX8_strengthOf_36 : decode cX8_strengthOf 36 = .ok (.istore_n 2, 1) := by decide +kernel
theorem dX8_strengthOf_37 : decode cX8_strengthOf 37 = .ok (.iinc 3 1, 3) := by decide +kernel
theorem dX8_strengthOf_40 : decode cX8_strengthOf 40 = .ok (.goto (-36), 3) := by decide +kernel
theorem dX8_strengthOf_43 : decode cX8_strengthOf 43 = .ok (.iload_n 2, 1) := by decide +kernel
theorem dX8_strengthOf_44 : decode cX8_strengthOf 44 = .ok (.ireturn, 1) := by decide +kernel
theorem dX8_figure_0 : decode cX8_figure 0 = .ok (.iload_n 1, 1) := by decide +kernel
theorem dX8_figure_1 : decode cX8_figure 1 = .ok (.tableswitch 138 0 11 #[63, 68, 73, 84, 90, 95, 100, 105, 112, 119, 125, 131], 63) := by decide +kernel
theorem dX8_figure_64 : decode cX8_figure 64 = .ok (.aload_n 0, 1) := by decide +kernel
theorem dX8_figure_65 : decode cX8_figure 65 = .ok (.getfield 56, 3) := by decide +kernel
theorem dX8_figure_68 : decode cX8_figure 68 = .ok (.ireturn, 1) := by decide +kernel
theorem dX8_figure_69 : decode cX8_figure 69 = .ok (.aload_n 0, 1) := by decide +kernel
theorem dX8_figure_70 : decode cX8_figure 70 = .ok (.getfield 43, 3) := by decide +kernel
theorem dX8_figure_73 : decode cX8_figure 73 = .ok (.ireturn, 1) := by decide +kernel
theorem dX8_figure_74 : decode cX8_figure 74 = .ok (.aload_n 0, 1) := by decide +kernel
theorem dX8_figure_75 : decode cX8_figure 75 = .ok (.getfield 43, 3) := by decide +kernel
theorem dX8_figure_78 : decode cX8_figure 78 = .ok (.aload_n 0, 1) := by decide +kernel
theorem dX8_figure_79 : decode cX8_figure 79 = .ok (.iconst 2, 1) := by decide +kernel
theorem dX8_figure_80 : decode cX8_figure 80 = .ok (.invokevirtual 116, 3) := by decide +kernel
theorem dX8_figure_83 : decode cX8_figure 83 = .ok (.isub, 1) := by decide +kernel
theorem dX8_figure_84 : decode cX8_figure 84 = .ok (.ireturn, 1) := by decide +kernel
theorem dX8_figure_85 : decode cX8_figure 85 = .ok (.aload_n 0, 1) := by decide +kernel
theorem dX8_figure_86 : decode cX8_figure 86 = .ok (.iconst 1, 1) := by decide +kernel
theorem dX8_figure_87 : decode cX8_figure 87 = .ok (.invokevirtual 116, 3) := by decide +kernel
theorem dX8_figure_90 : decode cX8_figure 90 = .ok (.ireturn, 1) := by decide +kernel
theorem dX8_figure_91 : decode cX8_figure 91 = .ok (.aload_n 0, 1) := by decide +kernel
theorem dX8_figure_92 : decode cX8_figure 92 = .ok (.getfield 59, 3) := by decide +kernel
theorem dX8_figure_95 : decode cX8_figure 95 = .ok (.ireturn, 1) := by decide +kernel
theorem dX8_figure_96 : decode cX8_figure 96 = .ok (.aload_n 0, 1) := by decide +kernel
theorem dX8_figure_97 : decode cX8_figure 97 = .ok (.getfield 50, 3) := by decide +kernel
theorem dX8_figure_100 : decode cX8_figure 100 = .ok (.ireturn, 1) := by decide +kernel
theorem dX8_figure_101 : decode cX8_figure 101 = .ok (.aload_n 0, 1) := by decide +kernel
theorem dX8_figure_102 : decode cX8_figure 102 = .ok (.getfield 62, 3) := by decide +kernel
theorem dX8_figure_105 : decode cX8_figure 105 = .ok (.ireturn, 1) := by decide +kernel
theorem dX8_figure_106 : decode cX8_figure 106 = .ok (.aload_n 0, 1) := by decide +kernel
theorem dX8_figure_107 : decode cX8_figure 107 = .ok (.getfield 34, 3) := by decide +kernel
theorem dX8_figure_110 : decode cX8_figure 110 = .ok (.iconst 0, 1) := by decide +kernel
theorem dX8_figure_111 : decode cX8_figure 111 = .ok (.iaload, 1) := by decide +kernel
theorem dX8_figure_112 : decode cX8_figure 112 = .ok (.ireturn, 1) := by decide +kernel
theorem dX8_figure_113 : decode cX8_figure 113 = .ok (.aload_n 0, 1) := by decide +kernel
theorem dX8_figure_114 : decode cX8_figure 114 = .ok (.getfield 34, 3) := by decide +kernel
theorem dX8_figure_117 : decode cX8_figure 117 = .ok (.iconst 1, 1) := by decide +kernel
theorem dX8_figure_118 : decode cX8_figure 118 = .ok (.iaload, 1) := by decide +kernel
theorem dX8_figure_119 : decode cX8_figure 119 = .ok (.ireturn, 1) := by decide +kernel
theorem dX8_figure_120 : decode cX8_figure 120 = .ok (.aload_n 0, 1) := by decide +kernel
theorem dX8_figure_121 : decode cX8_figure 121 = .ok (.iconst 0, 1) := by decide +kernel
theorem dX8_figure_122 : decode cX8_figure 122 = .ok (.invokevirtual 119, 3) := by decide +kernel
theorem dX8_figure_125 : decode cX8_figure 125 = .ok (.ireturn, 1) := by decide +kernel
theorem dX8_figure_126 : decode cX8_figure 126 = .ok (.aload_n 0, 1) := by decide +kernel
theorem dX8_figure_127 : decode cX8_figure 127 = .ok (.iconst 1, 1) := by decide +kernel
theorem dX8_figure_128 : decode cX8_figure 128 = .ok (.invokevirtual 119, 3) := by decide +kernel
theorem dX8_figure_131 : decode cX8_figure 131 = .ok (.ireturn, 1) := by decide +kernel
theorem dX8_figure_132 : decode cX8_figure 132 = .ok (.aload_n 0, 1) := by decide +kernel
theorem dX8_figure_133 : decode cX8_figure 133 = .ok (.getfield 18, 3) := by decide +kernel
theorem dX8_figure_136 : decode cX8_figure 136 = .ok (.iconst 0, 1) := by decide +kernel
theorem dX8_figure_137 : decode cX8_figure 137 = .ok (.iaload, 1) := by decide +kernel
theorem dX8_figure_138 : decode cX8_figure 138 = .ok (.ireturn, 1) := by decide +kernel
theorem dX8_figure_139 : decode cX8_figure 139 = .ok (.aload_n 0, 1) := by decide +kernel
theorem dX8_figure_140 : decode cX8_figure 140 = .ok (.getfield 18, 3) := by decide +kernel
theorem dX8_figure_143 : decode cX8_figure 143 = .ok (.iconst 1, 1) := by decide +kernel
theorem dX8_figure_144 : decode cX8_figure 144 = .ok (.iaload, 1) := by decide +kernel
theorem dX8_figure_145 : decode cX8_figure 145 = .ok (.ireturn, 1) := by decide +kernel
theorem dX8_lostByBoth_0 : decode cX8_lostByBoth 0 = .ok (.aload_n 0, 1) := by decide +kernel
theorem dX8_lostByBoth_1 : decode cX8_lostByBoth 1 = .ok (.getfield 34, 3) := by decide +kernel
theorem dX8_lostByBoth_4 : decode cX8_lostByBoth 4 = .ok (.iconst 0, 1) := by decide +kernel
theorem dX8_lostByBoth_5 : decode cX8_lostByBoth 5 = .ok (.iaload, 1) := by decide +kernel
theorem dX8_lostByBoth_6 : decode cX8_lostByBoth 6 = .ok (.aload_n 0, 1) := by decide +kernel
theorem dX8_lostByBoth_7 : decode cX8_lostByBoth 7 = .ok (.getfield 34, 3) := by decide +kernel
theorem dX8_lostByBoth_10 : decode cX8_lostByBoth 10 = .ok (.iconst 1, 1) := by decide +kernel
theorem dX8_lostByBoth_11 : decode cX8_lostByBoth 11 = .ok (.iaload, 1) := by decide +kernel
theorem dX8_lostByBoth_12 : decode cX8_lostByBoth 12 = .ok (.iadd, 1) := by decide +kernel
theorem dX8_lostByBoth_13 : decode cX8_lostByBoth 13 = .ok (.ireturn, 1) := by decide +kernel
theorem dX8_shareLeft_0 : decode cX8_shareLeft 0 = .ok (.iconst 0, 1) := by decide +kernel
theorem dX8_shareLeft_1 : decode cX8_shareLeft 1 = .ok (.istore_n 1, 1) := by decide +kernel
theorem dX8_shareLeft_2 : decode cX8_shareLeft 2 = .ok (.iconst 0, 1) := by decide +kernel
theorem dX8_shareLeft_3 : decode cX8_shareLeft 3 = .ok (.istore_n 2, 1) := by decide +kernel
theorem dX8_shareLeft_4 : decode cX8_shareLeft 4 = .ok (.iload_n 2, 1) := by decide +kernel
theorem dX8_shareLeft_5 : decode cX8_shareLeft 5 = .ok (.aload_n 0, 1) := by decide +kernel
theorem dX8_shareLeft_6 : decode cX8_shareLeft 6 = .ok (.getfield 43, 3) := by decide +kernel
theorem dX8_shareLeft_9 : decode cX8_shareLeft 9 = .ok (.if_icmp .ge 21, 3) := by decide +kernel
theorem dX8_shareLeft_12 : decode cX8_shareLeft 12 = .ok (.iload_n 1, 1) := by decide +kernel
theorem dX8_shareLeft_13 : decode cX8_shareLeft 13 = .ok (.aload_n 0, 1) := by decide +kernel
theorem dX8_shareLeft_14 : decode cX8_shareLeft 14 = .ok (.getfield 24, 3) := by decide +kernel
theorem dX8_shareLeft_17 : decode cX8_shareLeft 17 = .ok (.iload_n 2, 1) := by decide +kernel
theorem dX8_shareLeft_18 : decode cX8_shareLeft 18 = .ok (.aaload, 1) := by decide +kernel
theorem dX8_shareLeft_19 : decode cX8_shareLeft 19 = .ok (.getfield 104, 3) := by decide +kernel
theorem dX8_shareLeft_22 : decode cX8_shareLeft 22 = .ok (.iadd, 1) := by decide +kernel
theorem dX8_shareLeft_23 : decode cX8_shareLeft 23 = .ok (.istore_n 1, 1) := by decide +kernel
theorem dX8_shareLeft_24 : decode cX8_shareLeft 24 = .ok (.iinc 2 1, 3) := by decide +kernel
theorem dX8_shareLeft_27 : decode cX8_shareLeft 27 = .ok (.goto (-23), 3) := by decide +kernel
theorem dX8_shareLeft_30 : decode cX8_shareLeft 30 = .ok (.iload_n 1, 1) := by decide +kernel
theorem dX8_shareLeft_31 : decode cX8_shareLeft 31 = .ok (.iconst 1, 1) := by decide +kernel
theorem dX8_shareLeft_32 : decode cX8_shareLeft 32 = .ok (.if_icmp .ge 7, 3) := by decide +kernel
theorem dX8_shareLeft_35 : decode cX8_shareLeft 35 = .ok (.dconst 1, 1) := by decide +kernel
theorem dX8_shareLeft_36 : decode cX8_shareLeft 36 = .ok (.goto 18, 3) := by decide +kernel
theorem dX8_shareLeft_39 : decode cX8_shareLeft 39 = .ok (.aload_n 0, 1) := by decide +kernel
theorem dX8_shareLeft_40 : decode cX8_shareLeft 40 = .ok (.iconst 0, 1) := by decide +kernel
theorem dX8_shareLeft_41 : decode cX8_shareLeft 41 = .ok (.invokevirtual 119, 3) := by decide +kernel
theorem dX8_shareLeft_44 : decode cX8_shareLeft 44 = .ok (.aload_n 0, 1) := by decide +kernel
theorem dX8_shareLeft_45 : decode cX8_shareLeft 45 = .ok (.iconst 1, 1) := by decide +kernel
theorem dX8_shareLeft_46 : decode cX8_shareLeft 46 = .ok (.invokevirtual 119, 3) := by decide +kernel
theorem dX8_shareLeft_49 : decode cX8_shareLeft 49 = .ok (.iadd, 1) := by decide +kernel
theorem dX8_shareLeft_50 : decode cX8_shareLeft 50 = .ok (.i2d, 1) := by decide +kernel
theorem dX8_shareLeft_51 : decode cX8_shareLeft 51 = .ok (.iload_n 1, 1) := by decide +kernel
theorem dX8_shareLeft_52 : decode cX8_shareLeft 52 = .ok (.i2d, 1) := by decide +kernel
theorem dX8_shareLeft_53 : decode cX8_shareLeft 53 = .ok (.ddiv, 1) := by decide +kernel
theorem dX8_shareLeft_54 : decode cX8_shareLeft 54 = .ok (.dreturn, 1) := by decide +kernel
theorem dX9_init_0 : decode cX9_init 0 = .ok (.aload_n 0, 1) := by decide +kernel
theorem dX9_init_1 : decode cX9_init 1 = .ok (.invokespecial 3, 3) := by decide +kernel
theorem dX9_init_4 : decode cX9_init 4 = .ok (.aload_n 0, 1) := by decide +kernel
theorem dX9_init_5 : decode cX9_init 5 = .ok (.new 9, 3) := by decide +kernel
theorem dX9_init_8 : decode cX9_init 8 = .ok (.dup, 1) := by decide +kernel
theorem dX9_init_9 : decode cX9_init 9 = .ok (.invokespecial 11, 3) := by decide +kernel
theorem dX9_init_12 : decode cX9_init 12 = .ok (.putfield 12, 3) := by decide +kernel
theorem dX9_init_15 : decode cX9_init 15 = .ok (.aload_n 0, 1) := by decide +kernel
theorem dX9_init_16 : decode cX9_init 16 = .ok (.new 9, 3) := by decide +kernel
theorem dX9_init_19 : decode cX9_init 19 = .ok (.dup, 1) := by decide +kernel
theorem dX9_init_20 : decode cX9_init 20 = .ok (.invokespecial 11, 3) := by decide +kernel
theorem dX9_init_23 : decode cX9_init 23 = .ok (.putfield 16, 3) := by decide +kernel
theorem dX9_init_26 : decode cX9_init 26 = .ok (.aload_n 0, 1) := by decide +kernel
theorem dX9_init_27 : decode cX9_init 27 = .ok (.new 19, 3) := by decide +kernel
theorem dX9_init_30 : decode cX9_init 30 = .ok (.dup, 1) := by decide +kernel
theorem dX9_init_31 : decode cX9_init 31 = .ok (.invokespecial 21, 3) := by decide +kernel
theorem dX9_init_34 : decode cX9_init 34 = .ok (.putfield 22, 3) := by decide +kernel
theorem dX9_init_37 : decode cX9_init 37 = .ok (.aload_n 0, 1) := by decide +kernel
theorem dX9_init_38 : decode cX9_init 38 = .ok (.new 26, 3) := by decide +kernel
theorem dX9_init_41 : decode cX9_init 41 = .ok (.dup, 1) := by decide +kernel
theorem dX9_init_42 : decode cX9_init 42 = .ok (.invokespecial 28, 3) := by decide +kernel
theorem dX9_init_45 : decode cX9_init 45 = .ok (.putfield 29, 3) := by decide +kernel
theorem dX9_init_48 : decode cX9_init 48 = .ok (.aload_n 0, 1) := by decide +kernel
theorem dX9_init_49 : decode cX9_init 49 = .ok (.new 33, 3) := by decide +kernel
theorem dX9_init_52 : decode cX9_init 52 = .ok (.dup, 1) := by decide +kernel
theorem dX9_init_53 : decode cX9_init 53 = .ok (.invokespecial 35, 3) := by decide +kernel
theorem dX9_init_56 : decode cX9_init 56 = .ok (.putfield 36, 3) := by decide +kernel
theorem dX9_init_59 : decode cX9_init 59 = .ok (.aload_n 0, 1) := by decide +kernel
theorem dX9_init_60 : decode cX9_init 60 = .ok (.new 40, 3) := by decide +kernel
theorem dX9_init_63 : decode cX9_init 63 = .ok (.dup, 1) := by decide +kernel
theorem dX9_init_64 : decode cX9_init 64 = .ok (.invokespecial 42, 3) := by decide +kernel
theorem dX9_init_67 : decode cX9_init 67 = .ok (.putfield 43, 3) := by decide +kernel
theorem dX9_init_70 : decode cX9_init 70 = .ok (.return_, 1) := by decide +kernel
theorem dX9_needCell_0 : decode cX9_needCell 0 = .ok (.iload_n 0, 1) := by decide +kernel
theorem dX9_needCell_1 : decode cX9_needCell 1 = .ok (.ifCond .lt 9, 3) := by decide +kernel
theorem dX9_needCell_4 : decode cX9_needCell 4 = .ok (.iload_n 0, 1) := by decide +kernel
theorem dX9_needCell_5 : decode cX9_needCell 5 = .ok (.bipush 96, 2) := by decide +kernel
theorem dX9_needCell_7 : decode cX9_needCell 7 = .ok (.if_icmp .lt 14, 3) := by decide +kernel
theorem dX9_needCell_10 : decode cX9_needCell 10 = .ok (.new 181, 3) := by decide +kernel
theorem dX9_needCell_13 : decode cX9_needCell 13 = .ok (.dup, 1) := by decide +kernel
theorem dX9_needCell_14 : decode cX9_needCell 14 = .ok (.ldc_w 265, 3) := by decide +kernel
theorem dX9_needCell_17 : decode cX9_needCell 17 = .ok (.invokespecial 185, 3) := by decide +kernel
theorem dX9_needCell_20 : decode cX9_needCell 20 = .ok (.athrow, 1) := by decide +kernel
theorem dX9_needCell_21 : decode cX9_needCell 21 = .ok (.return_, 1) := by decide +kernel
theorem dX9_shape_0 : decode cX9_shape 0 = .ok (.iload_n 1, 1) := by decide +kernel
theorem dX9_shape_1 : decode cX9_shape 1 = .ok (.invokestatic 47, 3) := by decide +kernel
theorem dX9_shape_4 : decode cX9_shape 4 = .ok (.iload_n 2, 1) := by decide +kernel
theorem dX9_shape_5 : decode cX9_shape 5 = .ok (.invokestatic 47, 3) := by decide +kernel
theorem dX9_shape_8 : decode cX9_shape 8 = .ok (.iload_n 1, 1) := by decide +kernel
theorem dX9_shape_9 : decode cX9_shape 9 = .ok (.bipush 12, 2) := by decide +kernel
theorem dX9_shape_11 : decode cX9_shape 11 = .ok (.irem, 1) := by decide +kernel
theorem dX9_shape_12 : decode cX9_shape 12 = .ok (.iload_n 2, 1) := by decide +kernel
theorem dX9_shape_13 : decode cX9_shape 13 = .ok (.bipush 12, 2) := by decide +kernel
theorem dX9_shape_15 : decode cX9_shape 15 = .ok (.irem, 1) := by decide +kernel
theorem dX9_shape_16 : decode cX9_shape 16 = .ok (.if_icmp .gt 14, 3) := by decide +kernel
theorem dX9_shape_19 : decode cX9_shape 19 = .ok (.iload_n 1, 1) := by decide +kernel
theorem dX9_shape_20 : decode cX9_shape 20 = .ok (.bipush 12, 2) := by decide +kernel
theorem dX9_shape_22 : decode cX9_shape 22 = .ok (.idiv, 1) := by decide +kernel
theorem dX9_shape_23 : decode cX9_shape 23 = .ok (.iload_n 2, 1) := by decide +kernel
theorem dX9_shape_24 : decode cX9_shape 24 = .ok (.bipush 12, 2) := by decide +kernel
theorem dX9_shape_26 : decode cX9_shape 26 = .ok (.idiv, 1) := by decide +kernel
theorem dX9_shape_27 : decode cX9_shape 27 = .ok (.if_icmp .le 13, 3) := by decide +kernel
theorem dX9_shape_30 : decode cX9_shape 30 = .ok (.new 51, 3) := by decide +kernel
theorem dX9_shape_33 : decode cX9_shape 33 = .ok (.dup, 1) := by decide +kernel
theorem dX9_shape_34 : decode cX9_shape 34 = .ok (.ldc 53, 2) := by decide +kernel
theorem dX9_shape_36 : decode cX9_shape 36 = .ok (.invokespecial 55, 3) := by decide +kernel
theorem dX9_shape_39 : decode cX9_shape 39 = .ok (.athrow, 1) := by decide +kernel
theorem dX9_shape_40 : decode cX9_shape 40 = .ok (.iload_n 3, 1) := by decide +kernel
theorem dX9_shape_41 : decode cX9_shape 41 = .ok (.ifCond .lt 9, 3) := by decide +kernel
theorem dX9_shape_44 : decode cX9_shape 44 = .ok (.iload_n 3, 1) := by decide +kernel
theorem dX9_shape_45 : decode cX9_shape 45 = .ok (.bipush 9, 2) := by decide +kernel
theorem dX9_shape_47 : decode cX9_shape 47 = .ok (.if_icmp .le 13, 3) := by decide +kernel
theorem dX9_shape_50 : decode cX9_shape 50 = .ok (.new 51, 3) := by decide +kernel
theorem dX9_shape_53 : decode cX9_shape 53 = .ok (.dup, 1) := by decide +kernel
theorem dX9_shape_54 : decode cX9_shape 54 = .ok (.ldc 58, 2) := by decide +kernel
theorem dX9_shape_56 : decode cX9_shape 56 = .ok (.invokespecial 55, 3) := by decide +kernel
theorem dX9_shape_59 : decode cX9_shape 59 = .ok (.athrow, 1) := by decide +kernel
theorem dX9_shape_60 : decode cX9_shape 60 = .ok (.aload_n 0, 1) := by decide +kernel
theorem dX9_shape_61 : decode cX9_shape 61 = .ok (.getfield 22, 3) := by decide +kernel
theorem dX9_shape_64 : decode cX9_shape 64 = .ok (.aload_n 0, 1) := by decide +kernel
theorem dX9_shape_65 : decode cX9_shape 65 = .ok (.getfield 12, 3) := by decide +kernel
theorem dX9_shape_68 : decode cX9_shape 68 = .ok (.invokevirtual 60, 3) := by decide +kernel
theorem dX9_shape_71 : decode cX9_shape 71 = .ok (.aload_n 0, 1) := by decide +kernel
theorem dX9_shape_72 : decode cX9_shape 72 = .ok (.getfield 12, 3) := by decide +kernel
theorem dX9_shape_75 : decode cX9_shape 75 = .ok (.getfield 64, 3) := by decide +kernel
theorem dX9_shape_78 : decode cX9_shape 78 = .ok (.iload_n 1, 1) := by decide +kernel
theorem dX9_shape_79 : decode cX9_shape 79 = .ok (.iload_n 2, 1) := by decide +kernel
theorem dX9_shape_80 : decode cX9_shape 80 = .ok (.iload_n 3, 1) := by decide +kernel
theorem dX9_shape_81 : decode cX9_shape 81 = .ok (.invokevirtual 68, 3) := by decide +kernel
theorem dX9_shape_84 : decode cX9_shape 84 = .ok (.ireturn, 1) := by decide +kernel
theorem dX9_needSide_0 : decode cX9_needSide 0 = .ok (.iload_n 0, 1) := by decide +kernel
theorem dX9_needSide_1 : decode cX9_needSide 1 = .ok (.ifCond .lt 8, 3) := by decide +kernel
theorem dX9_needSide_4 : decode cX9_needSide 4 = .ok (.iload_n 0, 1) := by decide +kernel
theorem dX9_needSide_5 : decode cX9_needSide 5 = .ok (.iconst 2, 1) := by decide +kernel
theorem dX9_needSide_6 : decode cX9_needSide 6 = .ok (.if_icmp .lt 14, 3) := by decide +kernel
theorem dX9_needSide_9 : decode cX9_needSide 9 = .ok (.new 181, 3) := by decide +kernel
theorem dX9_needSide_12 : decode cX9_needSide 12 = .ok (.dup, 1) := by decide +kernel
theorem dX9_needSide_13 : decode cX9_needSide 13 = .ok (.ldc_w 267, 3) := by decide +kernel
theorem dX9_needSide_16 : decode cX9_needSide 16 = .ok (.invokespecial 185, 3) := by decide +kernel
theorem dX9_needSide_19 : decode cX9_needSide 19 = .ok (.athrow, 1) := by decide +kernel
theorem dX9_needSide_20 : decode cX9_needSide 20 = .ok (.return_, 1) := by decide +kernel
theorem dX9_moveGeneral_0 : decode cX9_moveGeneral 0 = .ok (.iload_n 1, 1) := by decide +kernel
theorem dX9_moveGeneral_1 : decode cX9_moveGeneral 1 = .ok (.invokestatic 74, 3) := by decide +kernel
theorem dX9_moveGeneral_4 : decode cX9_moveGeneral 4 = .ok (.iload_n 2, 1) := by decide +kernel
theorem dX9_moveGeneral_5 : decode cX9_moveGeneral 5 = .ok (.invokestatic 47, 3) := by decide +kernel
theorem dX9_moveGeneral_8 : decode cX9_moveGeneral 8 = .ok (.aload_n 0, 1) := by decide +kernel
theorem dX9_moveGeneral_9 : decode cX9_moveGeneral 9 = .ok (.getfield 22, 3) := by decide +kernel
theorem dX9_moveGeneral_12 : decode cX9_moveGeneral 12 = .ok (.aload_n 0, 1) := by decide +kernel
theorem dX9_moveGeneral_13 : decode cX9_moveGeneral 13 = .ok (.getfield 12, 3) := by decide +kernel
theorem dX9_moveGeneral_16 : decode cX9_moveGeneral 16 = .ok (.invokevirtual 60, 3) := by decide +kernel
theorem dX9_moveGeneral_19 : decode cX9_moveGeneral 19 = .ok (.aload_n 0, 1) := by decide +kernel
theorem dX9_moveGeneral_20 : decode cX9_moveGeneral 20 = .ok (.getfield 12, 3) := by decide +kernel
theorem dX9_moveGeneral_23 : decode cX9_moveGeneral 23 = .ok (.getfield 77, 3) := by decide +kernel
theorem dX9_moveGeneral_26 : decode cX9_moveGeneral 26 = .ok (.iload_n 1, 1) := by decide +kernel
theorem dX9_moveGeneral_27 : decode cX9_moveGeneral 27 = .ok (.iaload, 1) := by decide +kernel
theorem dX9_moveGeneral_28 : decode cX9_moveGeneral 28 = .ok (.istore_n 3, 1) := by decide +kernel
theorem dX9_moveGeneral_29 : decode cX9_moveGeneral 29 = .ok (.aload_n 0, 1) := by decide +kernel
theorem dX9_moveGeneral_30 : decode cX9_moveGeneral 30 = .ok (.getfield 12, 3) := by decide +kernel
theorem dX9_moveGeneral_33 : decode cX9_moveGeneral 33 = .ok (.getfield 77, 3) := by decide +kernel
theorem dX9_moveGeneral_36 : decode cX9_moveGeneral 36 = .ok (.iload_n 1, 1) := by decide +kernel
theorem dX9_moveGeneral_37 : decode cX9_moveGeneral 37 = .ok (.iload_n 2, 1) := by decide +kernel
theorem dX9_moveGeneral_38 : decode cX9_moveGeneral 38 = .ok (.iastore, 1) := by decide +kernel
theorem dX9_moveGeneral_39 : decode cX9_moveGeneral 39 = .ok (.iload_n 3, 1) := by decide +kernel
theorem dX9_moveGeneral_40 : decode cX9_moveGeneral 40 = .ok (.ireturn, 1) := by decide +kernel
theorem dX9_addTroop_0 : decode cX9_addTroop 0 = .ok (.iload_n 1, 1) := by decide +kernel
theorem dX9_addTroop_1 : decode cX9_addTroop 1 = .ok (.invokestatic 74, 3) := by decide +kernel
theorem dX9_addTroop_4 : decode cX9_addTroop 4 = .ok (.iload_n 2, 1) := by decide +kernel
theorem dX9_addTroop_5 : decode cX9_addTroop 5 = .ok (.invokestatic 47, 3) := by decide +kernel
theorem dX9_addTroop_8 : decode cX9_addTroop 8 = .ok (.iload_n 3, 1) := by decide +kernel
theorem dX9_addTroop_9 : decode cX9_addTroop 9 = .ok (.iconst 1, 1) := by decide +kernel
theorem dX9_addTroop_10 : decode cX9_addTroop 10 = .ok (.if_icmp .lt 9, 3) := by decide +kernel
theorem dX9_addTroop_13 : decode cX9_addTroop 13 = .ok (.iload_n 3, 1) := by decide +kernel
theorem dX9_addTroop_14 : decode cX9_addTroop 14 = .ok (.bipush 20, 2) := by decide +kernel
theorem dX9_addTroop_16 : decode cX9_addTroop 16 = .ok (.if_icmp .le 13, 3) := by decide +kernel
theorem dX9_addTroop_19 : decode cX9_addTroop 19 = .ok (.new 51, 3) := by decide +kernel
theorem dX9_addTroop_22 : decode cX9_addTroop 22 = .ok (.dup, 1) := by decide +kernel
theorem dX9_addTroop_23 : decode cX9_addTroop 23 = .ok (.ldc 81, 2) := by decide +kernel
theorem dX9_addTroop_25 : decode cX9_addTroop 25 = .ok (.invokespecial 55, 3) := by decide +kernel
theorem dX9_addTroop_28 : decode cX9_addTroop 28 = .ok (.athrow, 1) := by decide +kernel
theorem dX9_addTroop_29 : decode cX9_addTroop 29 = .ok (.aload_n 0, 1) := by decide +kernel
theorem dX9_addTroop_30 : decode cX9_addTroop 30 = .ok (.getfield 12, 3) := by decide +kernel
theorem dX9_addTroop_33 : decode cX9_addTroop 33 = .ok (.getfield 83, 3) := by decide +kernel
theorem dX9_addTroop_36 : decode cX9_addTroop 36 = .ok (.bipush 12, 2) := by decide +kernel
theorem dX9_addTroop_38 : decode cX9_addTroop 38 = .ok (.if_icmp .ge 15, 3) := by decide +kernel
theorem dX9_addTroop_41 : decode cX9_addTroop 41 = .ok (.aload_n 0, 1) := by decide +kernel
theorem dX9_addTroop_42 : decode cX9_addTroop 42 = .ok (.getfield 12, 3) := by decide +kernel
theorem dX9_addTroop_45 : decode cX9_addTroop 45 = .ok (.iload_n 2, 1) := by decide +kernel
theorem dX9_addTroop_46 : decode cX9_addTroop 46 = .ok (.invokevirtual 87, 3) := by decide +kernel
theorem dX9_addTroop_49 : decode cX9_addTroop 49 = .ok (.iconst (-1), 1) := by decide +kernel
theorem dX9_addTroop_50 : decode cX9_addTroop 50 = .ok (.if_icmp .eq 13, 3) := by decide +kernel
theorem dX9_addTroop_53 : decode cX9_addTroop 53 = .ok (.new 91, 3) := by decide +kernel
theorem dX9_addTroop_56 : decode cX9_addTroop 56 = .ok (.dup, 1) := by decide +kernel
theorem dX9_addTroop_57 : decode cX9_addTroop 57 = .ok (.ldc 93, 2) := by decide +kernel
theorem dX9_addTroop_59 : decode cX9_addTroop 59 = .ok (.invokespecial 95, 3) := by decide +kernel
theorem dX9_addTroop_62 : decode cX9_addTroop 62 = .ok (.athrow, 1) := by decide +kernel
theorem dX9_addTroop_63 : decode cX9_addTroop 63 = .ok (.aload_n 0, 1) := by decide +kernel
theorem dX9_addTroop_64 : decode cX9_addTroop 64 = .ok (.getfield 22, 3) := by decide +kernel
theorem dX9_addTroop_67 : decode cX9_addTroop 67 = .ok (.aload_n 0, 1) := by decide +kernel
theorem dX9_addTroop_68 : decode cX9_addTroop 68 = .ok (.getfield 12, 3) := by decide +kernel
theorem dX9_addTroop_71 : decode cX9_addTroop 71 = .ok (.invokevirtual 60, 3) := by decide +kernel
theorem dX9_addTroop_74 : decode cX9_addTroop 74 = .ok (.aload_n 0, 1) := by decide +kernel
theorem dX9_addTroop_75 : decode cX9_addTroop 75 = .ok (.getfield 12, 3) := by decide +kernel
theorem dX9_addTroop_78 : decode cX9_addTroop 78 = .ok (.iload_n 1, 1) := by decide +kernel
theorem dX9_addTroop_79 : decode cX9_addTroop 79 = .ok (.iload_n 2, 1) := by decide +kernel
theorem dX9_addTroop_80 : decode cX9_addTroop 80 = .ok (.iload_n 3, 1) := by decide +kernel
theorem dX9_addTroop_81 : decode cX9_addTroop 81 = .ok (.invokevirtual 96, 3) := by decide +kernel
theorem dX9_addTroop_84 : decode cX9_addTroop 84 = .ok (.ireturn, 1) := by decide +kernel
theorem dX9_needTroop_0 : decode cX9_needTroop 0 = .ok (.iload_n 1, 1) := by decide +kernel
theorem dX9_needTroop_1 : decode cX9_needTroop 1 = .ok (.ifCond .lt 14, 3) := by decide +kernel
theorem dX9_needTroop_4 : decode cX9_needTroop 4 = .ok (.iload_n 1, 1) := by decide +kernel
theorem dX9_needTroop_5 : decode cX9_needTroop 5 = .ok (.aload_n 0, 1) := by decide +kernel
theorem dX9_needTroop_6 : decode cX9_needTroop 6 = .ok (.getfield 12, 3) := by decide +kernel
theorem dX9_needTroop_9 : decode cX9_needTroop 9 = .ok (.getfield 83, 3) := by decide +kernel
theorem dX9_needTroop_12 : decode cX9_needTroop 12 = .ok (.if_icmp .lt 14, 3) := by decide +kernel
theorem dX9_needTroop_15 : decode cX9_needTroop 15 = .ok (.new 181, 3) := by decide +kernel
theorem dX9_needTroop_18 : decode cX9_needTroop 18 = .ok (.dup, 1) := by decide +kernel
theorem dX9_needTroop_19 : decode cX9_needTroop 19 = .ok (.ldc_w 269, 3) := by decide +kernel
theorem dX9_needTroop_22 : decode cX9_needTroop 22 = .ok (.invokespecial 185, 3) := by decide +kernel
theorem dX9_needTroop_25 : decode cX9_needTroop 25 = .ok (.athrow, 1) := by decide +kernel
theorem dX9_needTroop_26 : decode cX9_needTroop 26 = .ok (.return_, 1) := by decide +kernel
theorem dX9_sendOrder_0 : decode cX9_sendOrder 0 = .ok (.aload_n 0, 1) := by decide +kernel
theorem dX9_sendOrder_1 : decode cX9_sendOrder 1 = .ok (.getfield 36, 3) := by decide +kernel
theorem dX9_sendOrder_4 : decode cX9_sendOrder 4 = .ok (.aload_n 0, 1) := by decide +kernel
theorem dX9_sendOrder_5 : decode cX9_sendOrder 5 = .ok (.getfield 12, 3) := by decide +kernel
theorem dX9_sendOrder_8 : decode cX9_sendOrder 8 = .ok (.iload_n 1, 1) := by decide +kernel
theorem dX9_sendOrder_9 : decode cX9_sendOrder 9 = .ok (.invokevirtual 275, 3) := by decide +kernel
theorem dX9_sendOrder_12 : decode cX9_sendOrder 12 = .ok (.istore_n 3, 1) := by decide +kernel
theorem dX9_sendOrder_13 : decode cX9_sendOrder 13 = .ok (.aload_n 0, 1) := by decide +kernel
theorem dX9_sendOrder_14 : decode cX9_sendOrder 14 = .ok (.getfield 12, 3) := by decide +kernel
theorem dX9_sendOrder_17 : decode cX9_sendOrder 17 = .ok (.iload_n 1, 1) := by decide +kernel
theorem dX9_sendOrder_18 : decode cX9_sendOrder 18 = .ok (.iload_n 2, 1) := by decide +kernel
theorem dX9_sendOrder_19 : decode cX9_sendOrder 19 = .ok (.aload_n 0, 1) := by decide +kernel
theorem dX9_sendOrder_20 : decode cX9_sendOrder 20 = .ok (.getfield 12, 3) := by decide +kernel
theorem dX9_sendOrder_23 : decode cX9_sendOrder 23 = .ok (.getfield 115, 3) := by decide +kernel
theorem dX9_sendOrder_26 : decode cX9_sendOrder 26 = .ok (.iload_n 3, 1) := by decide +kernel
theorem dX9_sendOrder_27 : decode cX9_sendOrder 27 = .ok (.iadd, 1) := by decide +kernel
theorem dX9_sendOrder_28 : decode cX9_sendOrder 28 = .ok (.invokevirtual 278, 3) := by decide +kernel
theorem dX9_sendOrder_31 : decode cX9_sendOrder 31 = .ok (.iload_n 3, 1) := by decide +kernel
theorem dX9_sendOrder_32 : decode cX9_sendOrder 32 = .ok (.ireturn, 1) := by decide +kernel
theorem dX9_order_0 : decode cX9_order 0 = .ok (.aload_n 0, 1) := by decide +kernel
theorem dX9_order_1 : decode cX9_order 1 = .ok (.iload_n 1, 1) := by decide +kernel
theorem dX9_order_2 : decode cX9_order 2 = .ok (.invokevirtual 99, 3) := by decide +kernel
theorem dX9_order_5 : decode cX9_order 5 = .ok (.iload_n 2, 1) := by decide +kernel
theorem dX9_order_6 : decode cX9_order 6 = .ok (.invokestatic 47, 3) := by decide +kernel
theorem dX9_order_9 : decode cX9_order 9 = .ok (.aload_n 0, 1) := by decide +kernel
theorem dX9_order_10 : decode cX9_order 10 = .ok (.getfield 36, 3) := by decide +kernel
theorem dX9_order_13 : decode cX9_order 13 = .ok (.aload_n 0, 1) := by decide +kernel
theorem dX9_order_14 : decode cX9_order 14 = .ok (.getfield 12, 3) := by decide +kernel
theorem dX9_order_17 : decode cX9_order 17 = .ok (.iload_n 1, 1) := by decide +kernel
theorem dX9_order_18 : decode cX9_order 18 = .ok (.invokevirtual 102, 3) := by decide +kernel
theorem dX9_order_21 : decode cX9_order 21 = .ok (.ifCond .eq 13, 3) := by decide +kernel
theorem dX9_order_24 : decode cX9_order 24 = .ok (.new 91, 3) := by decide +kernel
theorem dX9_order_27 : decode cX9_order 27 = .ok (.dup, 1) := by decide +kernel
theorem dX9_order_28 : decode cX9_order 28 = .ok (.ldc 106, 2) := by decide +kernel
theorem dX9_order_30 : decode cX9_order 30 = .ok (.invokespecial 95, 3) := by decide +kernel
theorem dX9_order_33 : decode cX9_order 33 = .ok (.athrow, 1) := by decide +kernel
theorem dX9_order_34 : decode cX9_order 34 = .ok (.aload_n 0, 1) := by decide +kernel
theorem dX9_order_35 : decode cX9_order 35 = .ok (.getfield 22, 3) := by decide +kernel
theorem dX9_order_38 : decode cX9_order 38 = .ok (.aload_n 0, 1) := by decide +kernel
theorem dX9_order_39 : decode cX9_order 39 = .ok (.getfield 12, 3) := by decide +kernel
theorem dX9_order_42 : decode cX9_order 42 = .ok (.invokevirtual 60, 3) := by decide +kernel
theorem dX9_order_45 : decode cX9_order 45 = .ok (.aload_n 0, 1) := by decide +kernel
theorem dX9_order_46 : decode cX9_order 46 = .ok (.iload_n 1, 1) := by decide +kernel
theorem dX9_order_47 : decode cX9_order 47 = .ok (.iload_n 2, 1) := by decide +kernel
theorem dX9_order_48 : decode cX9_order 48 = .ok (.invokevirtual 108, 3) := by decide +kernel
theorem dX9_order_51 : decode cX9_order 51 = .ok (.ireturn, 1) := by decide +kernel
theorem dX9_needTurns_0 : decode cX9_needTurns 0 = .ok (.iload_n 0, 1) := by decide +kernel
theorem dX9_needTurns_1 : decode cX9_needTurns 1 = .ok (.iconst 1, 1) := by decide +kernel
theorem dX9_needTurns_2 : decode cX9_needTurns 2 = .ok (.if_icmp .lt 9, 3) := by decide +kernel
theorem dX9_needTurns_5 : decode cX9_needTurns 5 = .ok (.iload_n 0, 1) := by decide +kernel
theorem dX9_needTurns_6 : decode cX9_needTurns 6 = .ok (.bipush 50, 2) := by decide +kernel
theorem dX9_needTurns_8 : decode cX9_needTurns 8 = .ok (.if_icmp .le 14, 3) := by decide +kernel
theorem dX9_needTurns_11 : decode cX9_needTurns 11 = .ok (.new 51, 3) := by decide +kernel
theorem dX9_needTurns_14 : decode cX9_needTurns 14 = .ok (.dup, 1) := by decide +kernel
theorem dX9_needTurns_15 : decode cX9_needTurns 15 = .ok (.ldc_w 273, 3) := by decide +kernel
theorem dX9_needTurns_18 : decode cX9_needTurns 18 = .ok (.invokespecial 55, 3) := by decide +kernel
theorem dX9_needTurns_21 : decode cX9_needTurns 21 = .ok (.athrow, 1) := by decide +kernel
theorem dX9_needTurns_22 : decode cX9_needTurns 22 = .ok (.return_, 1) := by decide +kernel
theorem dX9_pass_0 : decode cX9_pass 0 = .ok (.iload_n 1, 1) := by decide +kernel
theorem dX9_pass_1 : decode cX9_pass 1 = .ok (.invokestatic 112, 3) := by decide +kernel
theorem dX9_pass_4 : decode cX9_pass 4 = .ok (.aload_n 0, 1) := by decide +kernel
theorem dX9_pass_5 : decode cX9_pass 5 = .ok (.getfield 12, 3) := by decide +kernel
theorem dX9_pass_8 : decode cX9_pass 8 = .ok (.getfield 115, 3) := by decide +kernel
theorem dX9_pass_11 : decode cX9_pass 11 = .ok (.iload_n 1, 1) := by decide +kernel
theorem dX9_pass_12 : decode cX9_pass 12 = .ok (.iadd, 1) := by decide +kernel
theorem dX9_pass_13 : decode cX9_pass 13 = .ok (.sipush 1000, 3) := by decide +kernel
theorem dX9_pass_16 : decode cX9_pass 16 = .ok (.if_icmp .le 13, 3) := by decide +kernel
theorem dX9_pass_19 : decode cX9_pass 19 = .ok (.new 91, 3) := by decide +kernel
theorem dX9_pass_22 : decode cX9_pass 22 = .ok (.dup, 1) := by decide +kernel
theorem dX9_pass_23 : decode cX9_pass 23 = .ok (.ldc 118, 2) := by decide +kernel
theorem dX9_pass_25 : decode cX9_pass 25 = .ok (.invokespecial 95, 3) := by decide +kernel
theorem dX9_pass_28 : decode cX9_pass 28 = .ok (.athrow, 1) := by decide +kernel
theorem dX9_pass_29 : decode cX9_pass 29 = .ok (.aload_n 0, 1) := by decide +kernel
theorem dX9_pass_30 : decode cX9_pass 30 = .ok (.getfield 22, 3) := by decide +kernel
theorem dX9_pass_33 : decode cX9_pass 33 = .ok (.aload_n 0, 1) := by decide +kernel
theorem dX9_pass_34 : decode cX9_pass 34 = .ok (.getfield 12, 3) := by decide +kernel
theorem dX9_pass_37 : decode cX9_pass 37 = .ok (.invokevirtual 60, 3) := by decide +kernel
theorem dX9_pass_40 : decode cX9_pass 40 = .ok (.aload_n 0, 1) := by decide +kernel
theorem dX9_pass_41 : decode cX9_pass 41 = .ok (.getfield 12, 3) := by decide +kernel
theorem dX9_pass_44 : decode cX9_pass 44 = .ok (.invokevirtual 120, 3) := by decide +kernel
theorem dX9_pass_47 : decode cX9_pass 47 = .ok (.istore_n 2, 1) := by decide +kernel
theorem dX9_pass_48 : decode cX9_pass 48 = .ok (.aload_n 0, 1) := by decide +kernel
theorem dX9_pass_49 : decode cX9_pass 49 = .ok (.getfield 43, 3) := by decide +kernel
theorem dX9_pass_52 : decode cX9_pass 52 = .ok (.aload_n 0, 1) := by decide +kernel
theorem dX9_pass_53 : decode cX9_pass 53 = .ok (.getfield 12, 3) := by decide +kernel
theorem dX9_pass_56 : decode cX9_pass 56 = .ok (.iload_n 1, 1) := by decide +kernel
theorem dX9_pass_57 : decode cX9_pass 57 = .ok (.invokevirtual 124, 3) := by decide +kernel
theorem dX9_pass_60 : decode cX9_pass 60 = .ok (.aload_n 0, 1) := by decide +kernel
theorem dX9_pass_61 : decode cX9_pass 61 = .ok (.getfield 12, 3) := by decide +kernel
theorem dX9_pass_64 : decode cX9_pass 64 = .ok (.invokevirtual 120, 3) := by decide +kernel
theorem dX9_pass_67 : decode cX9_pass 67 = .ok (.iload_n 2, 1) := by decide +kernel
theorem dX9_pass_68 : decode cX9_pass 68 = .ok (.isub, 1) := by decide +kernel
theorem dX9_pass_69 : decode cX9_pass 69 = .ok (.ireturn, 1) := by decide +kernel
theorem dX9_needFigure_0 : decode cX9_needFigure 0 = .ok (.iload_n 0, 1) := by decide +kernel
theorem dX9_needFigure_1 : decode cX9_needFigure 1 = .ok (.ifCond .lt 8, 3) := by decide +kernel
theorem dX9_needFigure_4 : decode cX9_needFigure 4 = .ok (.iload_n 0, 1) := by decide +kernel
theorem dX9_needFigure_5 : decode cX9_needFigure 5 = .ok (.iload_n 1, 1) := by decide +kernel
theorem dX9_needFigure_6 : decode cX9_needFigure 6 = .ok (.if_icmp .lt 14, 3) := by decide +kernel
theorem dX9_needFigure_9 : decode cX9_needFigure 9 = .ok (.new 51, 3) := by decide +kernel
theorem dX9_needFigure_12 : decode cX9_needFigure 12 = .ok (.dup, 1) := by decide +kernel
theorem dX9_needFigure_13 : decode cX9_needFigure 13 = .ok (.ldc_w 271, 3) := by decide +kernel
theorem dX9_needFigure_16 : decode cX9_needFigure 16 = .ok (.invokespecial 55, 3) := by decide +kernel
theorem dX9_needFigure_19 : decode cX9_needFigure 19 = .ok (.athrow, 1) := by decide +kernel
theorem dX9_needFigure_20 : decode cX9_needFigure 20 = .ok (.return_, 1) := by decide +kernel
theorem dX9_cell_0 : decode cX9_cell 0 = .ok (.iload_n 1, 1) := by decide +kernel
theorem dX9_cell_1 : decode cX9_cell 1 = .ok (.invokestatic 47, 3) := by decide +kernel
theorem dX9_cell_4 : decode cX9_cell 4 = .ok (.iload_n 2, 1) := by decide +kernel
theorem dX9_cell_5 : decode cX9_cell 5 = .ok (.iconst 4, 1) := by decide +kernel
theorem dX9_cell_6 : decode cX9_cell 6 = .ok (.invokestatic 168, 3) := by decide +kernel
theorem dX9_cell_9 : decode cX9_cell 9 = .ok (.aload_n 0, 1) := by decide +kernel
theorem dX9_cell_10 : decode cX9_cell 10 = .ok (.getfield 12, 3) := by decide +kernel
theorem dX9_cell_13 : decode cX9_cell 13 = .ok (.iload_n 1, 1) := by decide +kernel
theorem dX9_cell_14 : decode cX9_cell 14 = .ok (.iload_n 2, 1) := by decide +kernel
theorem dX9_cell_15 : decode cX9_cell 15 = .ok (.invokevirtual 172, 3) := by decide +kernel
theorem dX9_cell_18 : decode cX9_cell 18 = .ok (.ireturn, 1) := by decide +kernel
theorem dX9_troop_0 : decode cX9_troop 0 = .ok (.aload_n 0, 1) := by decide +kernel
theorem dX9_troop_1 : decode cX9_troop 1 = .ok (.iload_n 1, 1) := by decide +kernel
theorem dX9_troop_2 : decode cX9_troop 2 = .ok (.invokevirtual 99, 3) := by decide +kernel
theorem dX9_troop_5 : decode cX9_troop 5 = .ok (.iload_n 2, 1) := by decide +kernel
theorem dX9_troop_6 : decode cX9_troop 6 = .ok (.bipush 9, 2) := by decide +kernel
theorem dX9_troop_8 : decode cX9_troop 8 = .ok (.invokestatic 168, 3) := by decide +kernel
theorem dX9_troop_11 : decode cX9_troop 11 = .ok (.aload_n 0, 1) := by decide +kernel
theorem dX9_troop_12 : decode cX9_troop 12 = .ok (.getfield 12, 3) := by decide +kernel
theorem dX9_troop_15 : decode cX9_troop 15 = .ok (.iload_n 1, 1) := by decide +kernel
theorem dX9_troop_16 : decode cX9_troop 16 = .ok (.iload_n 2, 1) := by decide +kernel
theorem dX9_troop_17 : decode cX9_troop 17 = .ok (.invokevirtual 175, 3) := by decide +kernel
theorem dX9_troop_20 : decode cX9_troop 20 = .ok (.ireturn, 1) := by decide +kernel
theorem dX9_underWay_0 : decode cX9_underWay 0 = .ok (.iload_n 1, 1) := by decide +kernel
theorem dX9_underWay_1 : decode cX9_underWay 1 = .ok (.ifCond .lt 14, 3) := by decide +kernel
theorem dX9_underWay_4 : decode cX9_underWay 4 = .ok (.iload_n 1, 1) := by decide +kernel
theorem dX9_underWay_5 : decode cX9_underWay 5 = .ok (.aload_n 0, 1) := by decide +kernel
theorem dX9_underWay_6 : decode cX9_underWay 6 = .ok (.getfield 12, 3) := by decide +kernel
theorem dX9_underWay_9 : decode cX9_underWay 9 = .ok (.getfield 178, 3) := by decide +kernel
theorem dX9_underWay_12 : decode cX9_underWay 12 = .ok (.if_icmp .lt 13, 3) := by decide +kernel
theorem dX9_underWay_15 : decode cX9_underWay 15 = .ok (.new 181, 3) := by decide +kernel
theorem dX9_underWay_18 : decode cX9_underWay 18 = .ok (.dup, 1) := by decide +kernel
theorem dX9_underWay_19 : decode cX9_underWay 19 = .ok (.ldc 183, 2) := by decide +kernel
theorem dX9_underWay_21 : decode cX9_underWay 21 = .ok (.invokespecial 185, 3) := by decide +kernel
theorem dX9_underWay_24 : decode cX9_underWay 24 = .ok (.athrow, 1) := by decide +kernel
theorem dX9_underWay_25 : decode cX9_underWay 25 = .ok (.iload_n 2, 1) := by decide +kernel
theorem dX9_underWay_26 : decode cX9_underWay 26 = .ok (.iconst 4, 1) := by decide +kernel
theorem dX9_underWay_27 : decode cX9_underWay 27 = .ok (.invokestatic 168, 3) := by decide +kernel
theorem dX9_underWay_30 : decode cX9_underWay 30 = .ok (.aload_n 0, 1) := by decide +kernel
theorem dX9_underWay_31 : decode cX9_underWay 31 = .ok (.getfield 12, 3) := by decide +kernel
theorem dX9_underWay_34 : decode cX9_underWay 34 = .ok (.getfield 186, 3) := by decide +kernel
theorem dX9_underWay_37 : decode cX9_underWay 37 = .ok (.iload_n 1, 1) := by decide +kernel
theorem dX9_underWay_38 : decode cX9_underWay 38 = .ok (.aaload, 1) := by decide +kernel
theorem dX9_underWay_39 : decode cX9_underWay 39 = .ok (.iload_n 2, 1) := by decide +kernel
theorem dX9_underWay_40 : decode cX9_underWay 40 = .ok (.invokevirtual 190, 3) := by decide +kernel
theorem dX9_underWay_43 : decode cX9_underWay 43 = .ok (.ireturn, 1) := by decide +kernel
theorem dX9_countNow_0 : decode cX9_countNow 0 = .ok (.iload_n 1, 1) := by decide +kernel
theorem dX9_countNow_1 : decode cX9_countNow 1 = .ok (.bipush 13, 2) := by decide +kernel
theorem dX9_countNow_3 : decode cX9_countNow 3 = .ok (.if_icmp .ne 13, 3) := by decide +kernel
theorem dX9_countNow_6 : decode cX9_countNow 6 = .ok (.aload_n 0, 1) := by decide +kernel
theorem dX9_countNow_7 : decode cX9_countNow 7 = .ok (.getfield 22, 3) := by decide +kernel
theorem dX9_countNow_10 : decode cX9_countNow 10 = .ok (.getfield 160, 3) := by decide +kernel
theorem dX9_countNow_13 : decode cX9_countNow 13 = .ok (.goto 11, 3) := by decide +kernel
theorem dX9_countNow_16 : decode cX9_countNow 16 = .ok (.aload_n 0, 1) := by decide +kernel
theorem dX9_countNow_17 : decode cX9_countNow 17 = .ok (.getfield 12, 3) := by decide +kernel
theorem dX9_countNow_20 : decode cX9_countNow 20 = .ok (.iload_n 1, 1) := by decide +kernel
theorem dX9_countNow_21 : decode cX9_countNow 21 = .ok (.invokevirtual 214, 3) := by decide +kernel
theorem dX9_countNow_24 : decode cX9_countNow 24 = .ok (.ireturn, 1) := by decide +kernel
theorem dX9_count_0 : decode cX9_count 0 = .ok (.iload_n 1, 1) := by decide +kernel
theorem dX9_count_1 : decode cX9_count 1 = .ok (.bipush 14, 2) := by decide +kernel
theorem dX9_count_3 : decode cX9_count 3 = .ok (.invokestatic 168, 3) := by decide +kernel
theorem dX9_count_6 : decode cX9_count 6 = .ok (.aload_n 0, 1) := by decide +kernel
theorem dX9_count_7 : decode cX9_count 7 = .ok (.iload_n 1, 1) := by decide +kernel
theorem dX9_count_8 : decode cX9_count 8 = .ok (.invokevirtual 195, 3) := by decide +kernel
theorem dX9_count_11 : decode cX9_count 11 = .ok (.ireturn, 1) := by decide +kernel
theorem dX9_sees_0 : decode cX9_sees 0 = .ok (.iload_n 1, 1) := by decide +kernel
theorem dX9_sees_1 : decode cX9_sees 1 = .ok (.invokestatic 47, 3) := by decide +kernel
theorem dX9_sees_4 : decode cX9_sees 4 = .ok (.iload_n 2, 1) := by decide +kernel
theorem dX9_sees_5 : decode cX9_sees 5 = .ok (.invokestatic 47, 3) := by decide +kernel
theorem dX9_sees_8 : decode cX9_sees 8 = .ok (.aload_n 0, 1) := by decide +kernel
theorem dX9_sees_9 : decode cX9_sees 9 = .ok (.getfield 12, 3) := by decide +kernel
theorem dX9_sees_12 : decode cX9_sees 12 = .ok (.getfield 64, 3) := by decide +kernel
theorem dX9_sees_15 : decode cX9_sees 15 = .ok (.iload_n 1, 1) := by decide +kernel
theorem dX9_sees_16 : decode cX9_sees 16 = .ok (.iload_n 2, 1) := by decide +kernel
theorem dX9_sees_17 : decode cX9_sees 17 = .ok (.invokevirtual 198, 3) := by decide +kernel
theorem dX9_sees_20 : decode cX9_sees 20 = .ok (.ireturn, 1) := by decide +kernel
theorem dX9_distance_0 : decode cX9_distance 0 = .ok (.iload_n 1, 1) := by decide +kernel
theorem dX9_distance_1 : decode cX9_distance 1 = .ok (.invokestatic 47, 3) := by decide +kernel
theorem dX9_distance_4 : decode cX9_distance 4 = .ok (.iload_n 2, 1) := by decide +kernel
theorem dX9_distance_5 : decode cX9_distance 5 = .ok (.invokestatic 47, 3) := by decide +kernel
theorem dX9_distance_8 : decode cX9_distance 8 = .ok (.aload_n 0, 1) := by decide +kernel
theorem dX9_distance_9 : decode cX9_distance 9 = .ok (.getfield 36, 3) := by decide +kernel
theorem dX9_distance_12 : decode cX9_distance 12 = .ok (.aload_n 0, 1) := by decide +kernel
theorem dX9_distance_13 : decode cX9_distance 13 = .ok (.getfield 12, 3) := by decide +kernel
theorem dX9_distance_16 : decode cX9_distance 16 = .ok (.getfield 64, 3) := by decide +kernel
theorem dX9_distance_19 : decode cX9_distance 19 = .ok (.iload_n 1, 1) := by decide +kernel
theorem dX9_distance_20 : decode cX9_distance 20 = .ok (.iload_n 2, 1) := by decide +kernel
theorem dX9_distance_21 : decode cX9_distance 21 = .ok (.invokevirtual 202, 3) := by decide +kernel
theorem dX9_distance_24 : decode cX9_distance 24 = .ok (.ireturn, 1) := by decide +kernel
theorem dX9_why_0 : decode cX9_why 0 = .ok (.aload_n 0, 1) := by decide +kernel
theorem dX9_why_1 : decode cX9_why 1 = .ok (.iload_n 1, 1) := by decide +kernel
theorem dX9_why_2 : decode cX9_why 2 = .ok (.invokevirtual 99, 3) := by decide +kernel
theorem dX9_why_5 : decode cX9_why 5 = .ok (.aload_n 0, 1) := by decide +kernel
theorem dX9_why_6 : decode cX9_why 6 = .ok (.getfield 36, 3) := by decide +kernel
theorem dX9_why_9 : decode cX9_why 9 = .ok (.aload_n 0, 1) := by decide +kernel
theorem dX9_why_10 : decode cX9_why 10 = .ok (.getfield 12, 3) := by decide +kernel
theorem dX9_why_13 : decode cX9_why 13 = .ok (.iload_n 1, 1) := by decide +kernel
theorem dX9_why_14 : decode cX9_why 14 = .ok (.invokevirtual 102, 3) := by decide +kernel
theorem dX9_why_17 : decode cX9_why 17 = .ok (.ireturn, 1) := by decide +kernel
theorem dX9_ifPassed_0 : decode cX9_ifPassed 0 = .ok (.iload_n 1, 1) := by decide +kernel
theorem dX9_ifPassed_1 : decode cX9_ifPassed 1 = .ok (.invokestatic 112, 3) := by decide +kernel
theorem dX9_ifPassed_4 : decode cX9_ifPassed 4 = .ok (.iload_n 2, 1) := by decide +kernel
theorem dX9_ifPassed_5 : decode cX9_ifPassed 5 = .ok (.iconst 2, 1) := by decide +kernel
theorem dX9_ifPassed_6 : decode cX9_ifPassed 6 = .ok (.if_icmp .eq 30, 3) := by decide +kernel
theorem dX9_ifPassed_9 : decode cX9_ifPassed 9 = .ok (.iload_n 2, 1) := by decide +kernel
theorem dX9_ifPassed_10 : decode cX9_ifPassed 10 = .ok (.iconst 3, 1) := by decide +kernel
theorem dX9_ifPassed_11 : decode cX9_ifPassed 11 = .ok (.if_icmp .eq 25, 3) := by decide +kernel
theorem dX9_ifPassed_14 : decode cX9_ifPassed 14 = .ok (.iload_n 2, 1) := by decide +kernel
theorem dX9_ifPassed_15 : decode cX9_ifPassed 15 = .ok (.bipush 6, 2) := by decide +kernel
theorem dX9_ifPassed_17 : decode cX9_ifPassed 17 = .ok (.if_icmp .lt 9, 3) := by decide +kernel
theorem dX9_ifPassed_20 : decode cX9_ifPassed 20 = .ok (.iload_n 2, 1) := by decide +kernel
theorem dX9_ifPassed_21 : decode cX9_ifPassed 21 = .ok (.bipush 10, 2) := by decide +kernel
theorem dX9_ifPassed_23 : decode cX9_ifPassed 23 = .ok (.if_icmp .le 13, 3) := by decide +kernel
theorem dX9_ifPassed_26 : decode cX9_ifPassed 26 = .ok (.new 51, 3) := by decide +kernel
theorem dX9_ifPassed_29 : decode cX9_ifPassed 29 = .ok (.dup, 1) := by decide +kernel
theorem dX9_ifPassed_30 : decode cX9_ifPassed 30 = .ok (.ldc 209, 2) := by decide +kernel
theorem dX9_ifPassed_32 : decode cX9_ifPassed 32 = .ok (.invokespecial 55, 3) := by decide +kernel
theorem dX9_ifPassed_35 : decode cX9_ifPassed 35 = .ok (.athrow, 1) := by decide +kernel
theorem dX9_ifPassed_36 : decode cX9_ifPassed 36 = .ok (.aload_n 0, 1) := by decide +kernel
theorem dX9_ifPassed_37 : decode cX9_ifPassed 37 = .ok (.getfield 16, 3) := by decide +kernel
theorem dX9_ifPassed_40 : decode cX9_ifPassed 40 = .ok (.aload_n 0, 1) := by decide +kernel
theorem dX9_ifPassed_41 : decode cX9_ifPassed 41 = .ok (.getfield 12, 3) := by decide +kernel
theorem dX9_ifPassed_44 : decode cX9_ifPassed 44 = .ok (.invokevirtual 211, 3) := by decide +kernel
theorem dX9_ifPassed_47 : decode cX9_ifPassed 47 = .ok (.aload_n 0, 1) := by decide +kernel
theorem dX9_ifPassed_48 : decode cX9_ifPassed 48 = .ok (.getfield 43, 3) := by decide +kernel
theorem dX9_ifPassed_51 : decode cX9_ifPassed 51 = .ok (.aload_n 0, 1) := by decide +kernel
theorem dX9_ifPassed_52 : decode cX9_ifPassed 52 = .ok (.getfield 16, 3) := by decide +kernel
theorem dX9_ifPassed_55 : decode cX9_ifPassed 55 = .ok (.iload_n 1, 1) := by decide +kernel
theorem dX9_ifPassed_56 : decode cX9_ifPassed 56 = .ok (.invokevirtual 124, 3) := by decide +kernel
theorem dX9_ifPassed_59 : decode cX9_ifPassed 59 = .ok (.aload_n 0, 1) := by decide +kernel
theorem dX9_ifPassed_60 : decode cX9_ifPassed 60 = .ok (.getfield 16, 3) := by decide +kernel
theorem dX9_ifPassed_63 : decode cX9_ifPassed 63 = .ok (.iload_n 2, 1) := by decide +kernel
theorem dX9_ifPassed_64 : decode cX9_ifPassed 64 = .ok (.invokevirtual 214, 3) := by decide +kernel
theorem dX9_ifPassed_67 : decode cX9_ifPassed 67 = .ok (.ireturn, 1) := by decide +kernel
theorem dX9_arrivesIn_0 : decode cX9_arrivesIn 0 = .ok (.aload_n 0, 1) := by decide +kernel
theorem dX9_arrivesIn_1 : decode cX9_arrivesIn 1 = .ok (.iload_n 1, 1) := by decide +kernel
theorem dX9_arrivesIn_2 : decode cX9_arrivesIn 2 = .ok (.invokevirtual 99, 3) := by decide +kernel
theorem dX9_arrivesIn_5 : decode cX9_arrivesIn 5 = .ok (.aload_n 0, 1) := by decide +kernel
theorem dX9_arrivesIn_6 : decode cX9_arrivesIn 6 = .ok (.getfield 16, 3) := by decide +kernel
theorem dX9_arrivesIn_9 : decode cX9_arrivesIn 9 = .ok (.aload_n 0, 1) := by decide +kernel
theorem dX9_arrivesIn_10 : decode cX9_arrivesIn 10 = .ok (.getfield 12, 3) := by decide +kernel
theorem dX9_arrivesIn_13 : decode cX9_arrivesIn 13 = .ok (.invokevirtual 211, 3) := by decide +kernel
theorem dX9_arrivesIn_16 : decode cX9_arrivesIn 16 = .ok (.aload_n 0, 1) := by decide +kernel
theorem dX9_arrivesIn_17 : decode cX9_arrivesIn 17 = .ok (.getfield 16, 3) := by decide +kernel
theorem dX9_arrivesIn_20 : decode cX9_arrivesIn 20 = .ok (.getfield 215, 3) := by decide +kernel
theorem dX9_arrivesIn_23 : decode cX9_arrivesIn 23 = .ok (.iload_n 1, 1) := by decide +kernel
theorem dX9_arrivesIn_24 : decode cX9_arrivesIn 24 = .ok (.aaload, 1) := by decide +kernel
theorem dX9_arrivesIn_25 : decode cX9_arrivesIn 25 = .ok (.astore_n 2, 1) := by decide +kernel
theorem dX9_arrivesIn_26 : decode cX9_arrivesIn 26 = .ok (.iconst 0, 1) := by decide +kernel
theorem dX9_arrivesIn_27 : decode cX9_arrivesIn 27 = .ok (.istore_n 3, 1) := by decide +kernel
theorem dX9_arrivesIn_28 : decode cX9_arrivesIn 28 = .ok (.iload_n 3, 1) := by decide +kernel
theorem dX9_arrivesIn_29 : decode cX9_arrivesIn 29 = .ok (.bipush 60, 2) := by decide +kernel
theorem dX9_arrivesIn_31 : decode cX9_arrivesIn 31 = .ok (.if_icmp .gt 44, 3) := by decide +kernel
theorem dX9_arrivesIn_34 : decode cX9_arrivesIn 34 = .ok (.aload_n 2, 1) := by decide +kernel
theorem dX9_arrivesIn_35 : decode cX9_arrivesIn 35 = .ok (.getfield 218, 3) := by decide +kernel
theorem dX9_arrivesIn_38 : decode cX9_arrivesIn 38 = .ok (.iconst 2, 1) := by decide +kernel
theorem dX9_arrivesIn_39 : decode cX9_arrivesIn 39 = .ok (.if_icmp .ne 5, 3) := by decide +kernel
theorem dX9_arrivesIn_42 : decode cX9_arrivesIn 42 = .ok (.iconst (-1), 1) := by decide +kernel
theorem dX9_arrivesIn_43 : decode cX9_arrivesIn 43 = .ok (.ireturn, 1) := by decide +kernel
theorem dX9_arrivesIn_44 : decode cX9_arrivesIn 44 = .ok (.aload_n 2, 1) := by decide +kernel
theorem dX9_arrivesIn_45 : decode cX9_arrivesIn 45 = .ok (.getfield 223, 3) := by decide +kernel
theorem dX9_arrivesIn_48 : decode cX9_arrivesIn 48 = .ok (.aload_n 2, 1) := by decide +kernel
theorem dX9_arrivesIn_49 : decode cX9_arrivesIn 49 = .ok (.getfield 226, 3) := by decide +kernel
theorem dX9_arrivesIn_52 : decode cX9_arrivesIn 52 = .ok (.if_icmp .ne 5, 3) := by decide +kernel
theorem dX9_arrivesIn_55 : decode cX9_arrivesIn 55 = .ok (.iload_n 3, 1) := by decide +kernel
theorem dX9_arrivesIn_56 : decode cX9_arrivesIn 56 = .ok (.ireturn, 1) := by decide +kernel
theorem dX9_arrivesIn_57 : decode cX9_arrivesIn 57 = .ok (.aload_n 0, 1) := by decide +kernel
theorem dX9_arrivesIn_58 : decode cX9_arrivesIn 58 = .ok (.getfield 43, 3) := by decide +kernel
theorem dX9_arrivesIn_61 : decode cX9_arrivesIn 61 = .ok (.aload_n 0, 1) := by decide +kernel
theorem dX9_arrivesIn_62 : decode cX9_arrivesIn 62 = .ok (.getfield 16, 3) := by decide +kernel
theorem dX9_arrivesIn_65 : decode cX9_arrivesIn 65 = .ok (.iconst 1, 1) := by decide +kernel
theorem dX9_arrivesIn_66 : decode cX9_arrivesIn 66 = .ok (.invokevirtual 124, 3) := by decide +kernel
theorem dX9_arrivesIn_69 : decode cX9_arrivesIn 69 = .ok (.iinc 3 1, 3) := by decide +kernel
theorem dX9_arrivesIn_72 : decode cX9_arrivesIn 72 = .ok (.goto (-44), 3) := by decide +kernel
theorem dX9_arrivesIn_75 : decode cX9_arrivesIn 75 = .ok (.iconst (-1), 1) := by decide +kernel
theorem dX9_arrivesIn_76 : decode cX9_arrivesIn 76 = .ok (.ireturn, 1) := by decide +kernel
theorem dX9_strengthLeft_0 : decode cX9_strengthLeft 0 = .ok (.aload_n 0, 1) := by decide +kernel
theorem dX9_strengthLeft_1 : decode cX9_strengthLeft 1 = .ok (.getfield 12, 3) := by decide +kernel
theorem dX9_strengthLeft_4 : decode cX9_strengthLeft 4 = .ok (.invokevirtual 229, 3) := by decide +kernel
theorem dX9_strengthLeft_7 : decode cX9_strengthLeft 7 = .ok (.dreturn, 1) := by decide +kernel
theorem dL_cell_0 : decode cL_cell 0 = .ok (.iload_n 1, 1) := by decide +kernel
theorem dL_cell_1 : decode cL_cell 1 = .ok (.aload_n 0, 1) := by decide +kernel
theorem dL_cell_2 : decode cL_cell 2 = .ok (.arraylength, 1) := by decide +kernel
theorem dL_cell_3 : decode cL_cell 3 = .ok (.if_icmp .ge 9, 3) := by decide +kernel
theorem dL_cell_6 : decode cL_cell 6 = .ok (.aload_n 0, 1) := by decide +kernel
theorem dL_cell_7 : decode cL_cell 7 = .ok (.iload_n 1, 1) := by decide +kernel
theorem dL_cell_8 : decode cL_cell 8 = .ok (.iaload, 1) := by decide +kernel
theorem dL_cell_9 : decode cL_cell 9 = .ok (.goto 9, 3) := by decide +kernel
theorem dL_cell_12 : decode cL_cell 12 = .ok (.ldc 7, 2) := by decide +kernel
theorem dL_cell_14 : decode cL_cell 14 = .ok (.iload_n 1, 1) := by decide +kernel
theorem dL_cell_15 : decode cL_cell 15 = .ok (.iconst 1, 1) := by decide +kernel
theorem dL_cell_16 : decode cL_cell 16 = .ok (.iadd, 1) := by decide +kernel
theorem dL_cell_17 : decode cL_cell 17 = .ok (.imul, 1) := by decide +kernel
theorem dL_cell_18 : decode cL_cell 18 = .ok (.ireturn, 1) := by decide +kernel
theorem dL_at_0 : decode cL_at 0 = .ok (.iload_n 0, 1) := by decide +kernel
theorem dL_at_1 : decode cL_at 1 = .ok (.iconst 1, 1) := by decide +kernel
theorem dL_at_2 : decode cL_at 2 = .ok (.iushr, 1) := by decide +kernel
theorem dL_at_3 : decode cL_at 3 = .ok (.iload_n 1, 1) := by decide +kernel
theorem dL_at_4 : decode cL_at 4 = .ok (.irem, 1) := by decide +kernel
theorem dL_at_5 : decode cL_at 5 = .ok (.ireturn, 1) := by decide +kernel
theorem dL_big_0 : decode cL_big 0 = .ok (.bipush 12, 2) := by decide +kernel
theorem dL_big_2 : decode cL_big 2 = .ok (.iload_n 0, 1) := by decide +kernel
theorem dL_big_3 : decode cL_big 3 = .ok (.bipush 8, 2) := by decide +kernel
theorem dL_big_5 : decode cL_big 5 = .ok (.idiv, 1) := by decide +kernel
theorem dL_big_6 : decode cL_big 6 = .ok (.imul, 1) := by decide +kernel
theorem dL_big_7 : decode cL_big 7 = .ok (.iload_n 0, 1) := by decide +kernel
theorem dL_big_8 : decode cL_big 8 = .ok (.bipush 8, 2) := by decide +kernel
theorem dL_big_10 : decode cL_big 10 = .ok (.irem, 1) := by decide +kernel
theorem dL_big_11 : decode cL_big 11 = .ok (.iadd, 1) := by decide +kernel
theorem dL_big_12 : decode cL_big 12 = .ok (.ireturn, 1) := by decide +kernel
theorem dL_abs_0 : decode cL_abs 0 = .ok (.iload_n 0, 1) := by decide +kernel
theorem dL_abs_1 : decode cL_abs 1 = .ok (.ifCond .ge 8, 3) := by decide +kernel
theorem dL_abs_4 : decode cL_abs 4 = .ok (.iload_n 0, 1) := by decide +kernel
theorem dL_abs_5 : decode cL_abs 5 = .ok (.ineg, 1) := by decide +kernel
theorem dL_abs_6 : decode cL_abs 6 = .ok (.goto 4, 3) := by decide +kernel
theorem dL_abs_9 : decode cL_abs 9 = .ok (.iload_n 0, 1) := by decide +kernel
theorem dL_abs_10 : decode cL_abs 10 = .ok (.ireturn, 1) := by decide +kernel
theorem dL_beside_0 : decode cL_beside 0 = .ok (.iload_n 1, 1) := by decide +kernel

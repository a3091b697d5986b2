theorem dX2_lossOf_47 : decode cX2_lossOf 47 = .ok (.iload 5, 2) := by decide +kernel
theorem dX2_lossOf_49 : decode cX2_lossOf 49 = .ok (.aaload, 1) := by decide +kernel
theorem dX2_lossOf_50 : decode cX2_lossOf 50 = .ok (.aload_n 1, 1) := by decide +kernel
theorem dX2_lossOf_51 : decode cX2_lossOf 51 = .ok (.invokevirtual 138, 3) := by decide +kernel
theorem dX2_lossOf_54 : decode cX2_lossOf 54 = .ok (.ifCond .eq 36, 3) := by decide +kernel
theorem dX2_lossOf_57 : decode cX2_lossOf 57 = .ok (.iload_n 2, 1) := by decide +kernel
theorem dX2_lossOf_58 : decode cX2_lossOf 58 = .ok (.aload_n 0, 1) := by decide +kernel
theorem dX2_lossOf_59 : decode cX2_lossOf 59 = .ok (.getfield 96, 3) := by decide +kernel
theorem dX2_lossOf_62 : decode cX2_lossOf 62 = .ok (.getfield 142, 3) := by decide +kernel
theorem dX2_lossOf_65 : decode cX2_lossOf 65 = .ok (.iload 4, 2) := by decide +kernel
theorem dX2_lossOf_67 : decode cX2_lossOf 67 = .ok (.iaload, 1) := by decide +kernel
theorem dX2_lossOf_68 : decode cX2_lossOf 68 = .ok (.aload_n 0, 1) := by decide +kernel
theorem dX2_lossOf_69 : decode cX2_lossOf 69 = .ok (.getfield 96, 3) := by decide +kernel
theorem dX2_lossOf_72 : decode cX2_lossOf 72 = .ok (.getfield 142, 3) := by decide +kernel
theorem dX2_lossOf_75 : decode cX2_lossOf 75 = .ok (.aload_n 1, 1) := by decide +kernel
theorem dX2_lossOf_76 : decode cX2_lossOf 76 = .ok (.getfield 79, 3) := by decide +kernel
theorem dX2_lossOf_79 : decode cX2_lossOf 79 = .ok (.iaload, 1) := by decide +kernel
theorem dX2_lossOf_80 : decode cX2_lossOf 80 = .ok (.if_icmp .le 7, 3) := by decide +kernel
theorem dX2_lossOf_83 : decode cX2_lossOf 83 = .ok (.iconst 2, 1) := by decide +kernel
theorem dX2_lossOf_84 : decode cX2_lossOf 84 = .ok (.goto 4, 3) := by decide +kernel
theorem dX2_lossOf_87 : decode cX2_lossOf 87 = .ok (.iconst 1, 1) := by decide +kernel
theorem dX2_lossOf_88 : decode cX2_lossOf 88 = .ok (.iadd, 1) := by decide +kernel
theorem dX2_lossOf_89 : decode cX2_lossOf 89 = .ok (.istore_n 2, 1) := by decide +kernel
theorem dX2_lossOf_90 : decode cX2_lossOf 90 = .ok (.iinc 3 1, 3) := by decide +kernel
theorem dX2_lossOf_93 : decode cX2_lossOf 93 = .ok (.goto (-89), 3) := by decide +kernel
theorem dX2_lossOf_96 : decode cX2_lossOf 96 = .ok (.iload_n 2, 1) := by decide +kernel
theorem dX2_lossOf_97 : decode cX2_lossOf 97 = .ok (.aload_n 1, 1) := by decide +kernel
theorem dX2_lossOf_98 : decode cX2_lossOf 98 = .ok (.getfield 132, 3) := by decide +kernel
theorem dX2_lossOf_101 : decode cX2_lossOf 101 = .ok (.invokestatic 145, 3) := by decide +kernel
theorem dX2_lossOf_104 : decode cX2_lossOf 104 = .ok (.ireturn, 1) := by decide +kernel
theorem dX2_fight_0 : decode cX2_fight 0 = .ok (.iconst 0, 1) := by decide +kernel
theorem dX2_fight_1 : decode cX2_fight 1 = .ok (.istore_n 1, 1) := by decide +kernel
theorem dX2_fight_2 : decode cX2_fight 2 = .ok (.iload_n 1, 1) := by decide +kernel
theorem dX2_fight_3 : decode cX2_fight 3 = .ok (.aload_n 0, 1) := by decide +kernel
theorem dX2_fight_4 : decode cX2_fight 4 = .ok (.getfield 34, 3) := by decide +kernel
theorem dX2_fight_7 : decode cX2_fight 7 = .ok (.if_icmp .ge 28, 3) := by decide +kernel
theorem dX2_fight_10 : decode cX2_fight 10 = .ok (.aload_n 0, 1) := by decide +kernel
theorem dX2_fight_11 : decode cX2_fight 11 = .ok (.getfield 37, 3) := by decide +kernel
theorem dX2_fight_14 : decode cX2_fight 14 = .ok (.iload_n 1, 1) := by decide +kernel
theorem dX2_fight_15 : decode cX2_fight 15 = .ok (.aaload, 1) := by decide +kernel
theorem dX2_fight_16 : decode cX2_fight 16 = .ok (.aload_n 0, 1) := by decide +kernel
theorem dX2_fight_17 : decode cX2_fight 17 = .ok (.aload_n 0, 1) := by decide +kernel
theorem dX2_fight_18 : decode cX2_fight 18 = .ok (.getfield 37, 3) := by decide +kernel
theorem dX2_fight_21 : decode cX2_fight 21 = .ok (.iload_n 1, 1) := by decide +kernel
theorem dX2_fight_22 : decode cX2_fight 22 = .ok (.aaload, 1) := by decide +kernel
theorem dX2_fight_23 : decode cX2_fight 23 = .ok (.invokestatic 125, 3) := by decide +kernel
theorem dX2_fight_26 : decode cX2_fight 26 = .ok (.putfield 129, 3) := by decide +kernel
theorem dX2_fight_29 : decode cX2_fight 29 = .ok (.iinc 1 1, 3) := by decide +kernel
theorem dX2_fight_32 : decode cX2_fight 32 = .ok (.goto (-30), 3) := by decide +kernel
theorem dX2_fight_35 : decode cX2_fight 35 = .ok (.iconst 0, 1) := by decide +kernel
theorem dX2_fight_36 : decode cX2_fight 36 = .ok (.istore_n 1, 1) := by decide +kernel
theorem dX2_fight_37 : decode cX2_fight 37 = .ok (.iload_n 1, 1) := by decide +kernel
theorem dX2_fight_38 : decode cX2_fight 38 = .ok (.aload_n 0, 1) := by decide +kernel
theorem dX2_fight_39 : decode cX2_fight 39 = .ok (.getfield 34, 3) := by decide +kernel
theorem dX2_fight_42 : decode cX2_fight 42 = .ok (.if_icmp .ge 57, 3) := by decide +kernel
theorem dX2_fight_45 : decode cX2_fight 45 = .ok (.aload_n 0, 1) := by decide +kernel
theorem dX2_fight_46 : decode cX2_fight 46 = .ok (.getfield 37, 3) := by decide +kernel
theorem dX2_fight_49 : decode cX2_fight 49 = .ok (.iload_n 1, 1) := by decide +kernel
theorem dX2_fight_50 : decode cX2_fight 50 = .ok (.aaload, 1) := by decide +kernel
theorem dX2_fight_51 : decode cX2_fight 51 = .ok (.astore_n 2, 1) := by decide +kernel
theorem dX2_fight_52 : decode cX2_fight 52 = .ok (.aload_n 2, 1) := by decide +kernel
theorem dX2_fight_53 : decode cX2_fight 53 = .ok (.dup, 1) := by decide +kernel
theorem dX2_fight_54 : decode cX2_fight 54 = .ok (.getfield 132, 3) := by decide +kernel
theorem dX2_fight_57 : decode cX2_fight 57 = .ok (.aload_n 2, 1) := by decide +kernel
theorem dX2_fight_58 : decode cX2_fight 58 = .ok (.getfield 129, 3) := by decide +kernel
theorem dX2_fight_61 : decode cX2_fight 61 = .ok (.isub, 1) := by decide +kernel
theorem dX2_fight_62 : decode cX2_fight 62 = .ok (.putfield 132, 3) := by decide +kernel
theorem dX2_fight_65 : decode cX2_fight 65 = .ok (.aload_n 0, 1) := by decide +kernel
theorem dX2_fight_66 : decode cX2_fight 66 = .ok (.getfield 135, 3) := by decide +kernel
theorem dX2_fight_69 : decode cX2_fight 69 = .ok (.aload_n 2, 1) := by decide +kernel
theorem dX2_fight_70 : decode cX2_fight 70 = .ok (.getfield 108, 3) := by decide +kernel
theorem dX2_fight_73 : decode cX2_fight 73 = .ok (.dup2, 1) := by decide +kernel
theorem dX2_fight_74 : decode cX2_fight 74 = .ok (.iaload, 1) := by decide +kernel
theorem dX2_fight_75 : decode cX2_fight 75 = .ok (.aload_n 2, 1) := by decide +kernel
theorem dX2_fight_76 : decode cX2_fight 76 = .ok (.getfield 129, 3) := by decide +kernel
theorem dX2_fight_79 : decode cX2_fight 79 = .ok (.iadd, 1) := by decide +kernel
theorem dX2_fight_80 : decode cX2_fight 80 = .ok (.iastore, 1) := by decide +kernel
theorem dX2_fight_81 : decode cX2_fight 81 = .ok (.aload_n 2, 1) := by decide +kernel
theorem dX2_fight_82 : decode cX2_fight 82 = .ok (.getfield 132, 3) := by decide +kernel
theorem dX2_fight_85 : decode cX2_fight 85 = .ok (.ifCond .ne 8, 3) := by decide +kernel
theorem dX2_fight_88 : decode cX2_fight 88 = .ok (.aload_n 2, 1) := by decide +kernel
theorem dX2_fight_89 : decode cX2_fight 89 = .ok (.iconst 2, 1) := by decide +kernel
theorem dX2_fight_90 : decode cX2_fight 90 = .ok (.putfield 60, 3) := by decide +kernel
theorem dX2_fight_93 : decode cX2_fight 93 = .ok (.iinc 1 1, 3) := by decide +kernel
theorem dX2_fight_96 : decode cX2_fight 96 = .ok (.goto (-59), 3) := by decide +kernel
theorem dX2_fight_99 : decode cX2_fight 99 = .ok (.return_, 1) := by decide +kernel
theorem dX2_seesEnemy_0 : decode cX2_seesEnemy 0 = .ok (.iconst 0, 1) := by decide +kernel
theorem dX2_seesEnemy_1 : decode cX2_seesEnemy 1 = .ok (.istore_n 2, 1) := by decide +kernel
theorem dX2_seesEnemy_2 : decode cX2_seesEnemy 2 = .ok (.iload_n 2, 1) := by decide +kernel
theorem dX2_seesEnemy_3 : decode cX2_seesEnemy 3 = .ok (.aload_n 0, 1) := by decide +kernel
theorem dX2_seesEnemy_4 : decode cX2_seesEnemy 4 = .ok (.getfield 34, 3) := by decide +kernel
theorem dX2_seesEnemy_7 : decode cX2_seesEnemy 7 = .ok (.if_icmp .ge 44, 3) := by decide +kernel
theorem dX2_seesEnemy_10 : decode cX2_seesEnemy 10 = .ok (.aload_n 0, 1) := by decide +kernel
theorem dX2_seesEnemy_11 : decode cX2_seesEnemy 11 = .ok (.getfield 37, 3) := by decide +kernel
theorem dX2_seesEnemy_14 : decode cX2_seesEnemy 14 = .ok (.iload_n 2, 1) := by decide +kernel
theorem dX2_seesEnemy_15 : decode cX2_seesEnemy 15 = .ok (.aaload, 1) := by decide +kernel
theorem dX2_seesEnemy_16 : decode cX2_seesEnemy 16 = .ok (.astore_n 3, 1) := by decide +kernel
theorem dX2_seesEnemy_17 : decode cX2_seesEnemy 17 = .ok (.aload_n 3, 1) := by decide +kernel
theorem dX2_seesEnemy_18 : decode cX2_seesEnemy 18 = .ok (.aload_n 1, 1) := by decide +kernel
theorem dX2_seesEnemy_19 : decode cX2_seesEnemy 19 = .ok (.invokevirtual 138, 3) := by decide +kernel
theorem dX2_seesEnemy_22 : decode cX2_seesEnemy 22 = .ok (.ifCond .eq 23, 3) := by decide +kernel
theorem dX2_seesEnemy_25 : decode cX2_seesEnemy 25 = .ok (.aload_n 0, 1) := by decide +kernel
theorem dX2_seesEnemy_26 : decode cX2_seesEnemy 26 = .ok (.getfield 96, 3) := by decide +kernel
theorem dX2_seesEnemy_29 : decode cX2_seesEnemy 29 = .ok (.aload_n 1, 1) := by decide +kernel
theorem dX2_seesEnemy_30 : decode cX2_seesEnemy 30 = .ok (.getfield 79, 3) := by decide +kernel
theorem dX2_seesEnemy_33 : decode cX2_seesEnemy 33 = .ok (.aload_n 3, 1) := by decide +kernel
theorem dX2_seesEnemy_34 : decode cX2_seesEnemy 34 = .ok (.getfield 79, 3) := by decide +kernel
theorem dX2_seesEnemy_37 : decode cX2_seesEnemy 37 = .ok (.invokevirtual 157, 3) := by decide +kernel
theorem dX2_seesEnemy_40 : decode cX2_seesEnemy 40 = .ok (.ifCond .eq 5, 3) := by decide +kernel
theorem dX2_seesEnemy_43 : decode cX2_seesEnemy 43 = .ok (.iconst 1, 1) := by decide +kernel
theorem dX2_seesEnemy_44 : decode cX2_seesEnemy 44 = .ok (.ireturn, 1) := by decide +kernel
theorem dX2_seesEnemy_45 : decode cX2_seesEnemy 45 = .ok (.iinc 2 1, 3) := by decide +kernel
theorem dX2_seesEnemy_48 : decode cX2_seesEnemy 48 = .ok (.goto (-46), 3) := by decide +kernel
theorem dX2_seesEnemy_51 : decode cX2_seesEnemy 51 = .ok (.iconst 0, 1) := by decide +kernel
theorem dX2_seesEnemy_52 : decode cX2_seesEnemy 52 = .ok (.ireturn, 1) := by decide +kernel
theorem dX2_steadyOrRout_0 : decode cX2_steadyOrRout 0 = .ok (.aload_n 1, 1) := by decide +kernel
theorem dX2_steadyOrRout_1 : decode cX2_steadyOrRout 1 = .ok (.getfield 60, 3) := by decide +kernel
theorem dX2_steadyOrRout_4 : decode cX2_steadyOrRout 4 = .ok (.ifCond .ne 31, 3) := by decide +kernel
theorem dX2_steadyOrRout_7 : decode cX2_steadyOrRout 7 = .ok (.aload_n 1, 1) := by decide +kernel
theorem dX2_steadyOrRout_8 : decode cX2_steadyOrRout 8 = .ok (.getfield 129, 3) := by decide +kernel
theorem dX2_steadyOrRout_11 : decode cX2_steadyOrRout 11 = .ok (.ifCond .le 24, 3) := by decide +kernel
theorem dX2_steadyOrRout_14 : decode cX2_steadyOrRout 14 = .ok (.iconst 2, 1) := by decide +kernel
theorem dX2_steadyOrRout_15 : decode cX2_steadyOrRout 15 = .ok (.aload_n 1, 1) := by decide +kernel
theorem dX2_steadyOrRout_16 : decode cX2_steadyOrRout 16 = .ok (.getfield 132, 3) := by decide +kernel
theorem dX2_steadyOrRout_19 : decode cX2_steadyOrRout 19 = .ok (.imul, 1) := by decide +kernel
theorem dX2_steadyOrRout_20 : decode cX2_steadyOrRout 20 = .ok (.aload_n 1, 1) := by decide +kernel
theorem dX2_steadyOrRout_21 : decode cX2_steadyOrRout 21 = .ok (.getfield 150, 3) := by decide +kernel
theorem dX2_steadyOrRout_24 : decode cX2_steadyOrRout 24 = .ok (.if_icmp .gt 11, 3) := by decide +kernel
theorem dX2_steadyOrRout_27 : decode cX2_steadyOrRout 27 = .ok (.aload_n 1, 1) := by decide +kernel
theorem dX2_steadyOrRout_28 : decode cX2_steadyOrRout 28 = .ok (.iconst 1, 1) := by decide +kernel
theorem dX2_steadyOrRout_29 : decode cX2_steadyOrRout 29 = .ok (.putfield 60, 3) := by decide +kernel
theorem dX2_steadyOrRout_32 : decode cX2_steadyOrRout 32 = .ok (.goto 39, 3) := by decide +kernel
theorem dX2_steadyOrRout_35 : decode cX2_steadyOrRout 35 = .ok (.aload_n 1, 1) := by decide +kernel
theorem dX2_steadyOrRout_36 : decode cX2_steadyOrRout 36 = .ok (.getfield 60, 3) := by decide +kernel
theorem dX2_steadyOrRout_39 : decode cX2_steadyOrRout 39 = .ok (.iconst 1, 1) := by decide +kernel
theorem dX2_steadyOrRout_40 : decode cX2_steadyOrRout 40 = .ok (.if_icmp .ne 31, 3) := by decide +kernel
theorem dX2_steadyOrRout_43 : decode cX2_steadyOrRout 43 = .ok (.aload_n 1, 1) := by decide +kernel
theorem dX2_steadyOrRout_44 : decode cX2_steadyOrRout 44 = .ok (.getfield 129, 3) := by decide +kernel
theorem dX2_steadyOrRout_47 : decode cX2_steadyOrRout 47 = .ok (.ifCond .ne 24, 3) := by decide +kernel
theorem dX2_steadyOrRout_50 : decode cX2_steadyOrRout 50 = .ok (.aload_n 0, 1) := by decide +kernel
theorem dX2_steadyOrRout_51 : decode cX2_steadyOrRout 51 = .ok (.aload_n 1, 1) := by decide +kernel
theorem dX2_steadyOrRout_52 : decode cX2_steadyOrRout 52 = .ok (.invokestatic 153, 3) := by decide +kernel
theorem dX2_steadyOrRout_55 : decode cX2_steadyOrRout 55 = .ok (.ifCond .ne 16, 3) := by decide +kernel
theorem dX2_steadyOrRout_58 : decode cX2_steadyOrRout 58 = .ok (.aload_n 1, 1) := by decide +kernel
theorem dX2_steadyOrRout_59 : decode cX2_steadyOrRout 59 = .ok (.iconst 0, 1) := by decide +kernel
theorem dX2_steadyOrRout_60 : decode cX2_steadyOrRout 60 = .ok (.putfield 60, 3) := by decide +kernel
theorem dX2_steadyOrRout_63 : decode cX2_steadyOrRout 63 = .ok (.aload_n 1, 1) := by decide +kernel
theorem dX2_steadyOrRout_64 : decode cX2_steadyOrRout 64 = .ok (.aload_n 1, 1) := by decide +kernel
theorem dX2_steadyOrRout_65 : decode cX2_steadyOrRout 65 = .ok (.getfield 79, 3) := by decide +kernel
theorem dX2_steadyOrRout_68 : decode cX2_steadyOrRout 68 = .ok (.putfield 68, 3) := by decide +kernel
theorem dX2_steadyOrRout_71 : decode cX2_steadyOrRout 71 = .ok (.return_, 1) := by decide +kernel
theorem dX2_play_0 : decode cX2_play 0 = .ok (.iconst 0, 1) := by decide +kernel
theorem dX2_play_1 : decode cX2_play 1 = .ok (.istore_n 3, 1) := by decide +kernel
theorem dX2_play_2 : decode cX2_play 2 = .ok (.iload_n 3, 1) := by decide +kernel
theorem dX2_play_3 : decode cX2_play 3 = .ok (.iload_n 2, 1) := by decide +kernel
theorem dX2_play_4 : decode cX2_play 4 = .ok (.if_icmp .ge 61, 3) := by decide +kernel
theorem dX2_play_7 : decode cX2_play 7 = .ok (.aload_n 1, 1) := by decide +kernel
theorem dX2_play_8 : decode cX2_play 8 = .ok (.dup, 1) := by decide +kernel
theorem dX2_play_9 : decode cX2_play 9 = .ok (.getfield 18, 3) := by decide +kernel
theorem dX2_play_12 : decode cX2_play 12 = .ok (.iconst 1, 1) := by decide +kernel
theorem dX2_play_13 : decode cX2_play 13 = .ok (.iadd, 1) := by decide +kernel
theorem dX2_play_14 : decode cX2_play 14 = .ok (.putfield 18, 3) := by decide +kernel
theorem dX2_play_17 : decode cX2_play 17 = .ok (.aload_n 1, 1) := by decide +kernel
theorem dX2_play_18 : decode cX2_play 18 = .ok (.invokestatic 24, 3) := by decide +kernel
theorem dX2_play_21 : decode cX2_play 21 = .ok (.aload_n 0, 1) := by decide +kernel
theorem dX2_play_22 : decode cX2_play 22 = .ok (.aload_n 1, 1) := by decide +kernel
theorem dX2_play_23 : decode cX2_play 23 = .ok (.invokevirtual 28, 3) := by decide +kernel
theorem dX2_play_26 : decode cX2_play 26 = .ok (.aload_n 1, 1) := by decide +kernel
theorem dX2_play_27 : decode cX2_play 27 = .ok (.invokestatic 31, 3) := by decide +kernel
theorem dX2_play_30 : decode cX2_play 30 = .ok (.iconst 0, 1) := by decide +kernel
theorem dX2_play_31 : decode cX2_play 31 = .ok (.istore 4, 2) := by decide +kernel
theorem dX2_play_33 : decode cX2_play 33 = .ok (.iload 4, 2) := by decide +kernel
theorem dX2_play_35 : decode cX2_play 35 = .ok (.aload_n 1, 1) := by decide +kernel
theorem dX2_play_36 : decode cX2_play 36 = .ok (.getfield 34, 3) := by decide +kernel
theorem dX2_play_39 : decode cX2_play 39 = .ok (.if_icmp .ge 20, 3) := by decide +kernel
theorem dX2_play_42 : decode cX2_play 42 = .ok (.aload_n 1, 1) := by decide +kernel
theorem dX2_play_43 : decode cX2_play 43 = .ok (.aload_n 1, 1) := by decide +kernel
theorem dX2_play_44 : decode cX2_play 44 = .ok (.getfield 37, 3) := by decide +kernel
theorem dX2_play_47 : decode cX2_play 47 = .ok (.iload 4, 2) := by decide +kernel
theorem dX2_play_49 : decode cX2_play 49 = .ok (.aaload, 1) := by decide +kernel
theorem dX2_play_50 : decode cX2_play 50 = .ok (.invokestatic 41, 3) := by decide +kernel
theorem dX2_play_53 : decode cX2_play 53 = .ok (.iinc 4 1, 3) := by decide +kernel
theorem dX2_play_56 : decode cX2_play 56 = .ok (.goto (-23), 3) := by decide +kernel
theorem dX2_play_59 : decode cX2_play 59 = .ok (.iinc 3 1, 3) := by decide +kernel
theorem dX2_play_62 : decode cX2_play 62 = .ok (.goto (-60), 3) := by decide +kernel
theorem dX2_play_65 : decode cX2_play 65 = .ok (.return_, 1) := by decide +kernel
theorem dX3_figure_0 : decode cX3_figure 0 = .ok (.iload_n 1, 1) := by decide +kernel
theorem dX3_figure_1 : decode cX3_figure 1 = .ok (.tableswitch 42 0 2 #[27, 32, 37], 27) := by decide +kernel
theorem dX3_figure_28 : decode cX3_figure 28 = .ok (.aload_n 0, 1) := by decide +kernel
theorem dX3_figure_29 : decode cX3_figure 29 = .ok (.getfield 7, 3) := by decide +kernel
theorem dX3_figure_32 : decode cX3_figure 32 = .ok (.ireturn, 1) := by decide +kernel
theorem dX3_figure_33 : decode cX3_figure 33 = .ok (.aload_n 0, 1) := by decide +kernel
theorem dX3_figure_34 : decode cX3_figure 34 = .ok (.getfield 13, 3) := by decide +kernel
theorem dX3_figure_37 : decode cX3_figure 37 = .ok (.ireturn, 1) := by decide +kernel
theorem dX3_figure_38 : decode cX3_figure 38 = .ok (.aload_n 0, 1) := by decide +kernel
theorem dX3_figure_39 : decode cX3_figure 39 = .ok (.getfield 16, 3) := by decide +kernel
theorem dX3_figure_42 : decode cX3_figure 42 = .ok (.ireturn, 1) := by decide +kernel
theorem dX3_figure_43 : decode cX3_figure 43 = .ok (.aload_n 0, 1) := by decide +kernel
theorem dX3_figure_44 : decode cX3_figure 44 = .ok (.getfield 19, 3) := by decide +kernel
theorem dX3_figure_47 : decode cX3_figure 47 = .ok (.ireturn, 1) := by decide +kernel
theorem dX5_level_0 : decode cX5_level 0 = .ok (.iconst 0, 1) := by decide +kernel
theorem dX5_level_1 : decode cX5_level 1 = .ok (.istore 4, 2) := by decide +kernel
theorem dX5_level_3 : decode cX5_level 3 = .ok (.iload_n 1, 1) := by decide +kernel
theorem dX5_level_4 : decode cX5_level 4 = .ok (.istore 5, 2) := by decide +kernel
theorem dX5_level_6 : decode cX5_level 6 = .ok (.iload 5, 2) := by decide +kernel
theorem dX5_level_8 : decode cX5_level 8 = .ok (.iload_n 2, 1) := by decide +kernel
theorem dX5_level_9 : decode cX5_level 9 = .ok (.if_icmp .gt 67, 3) := by decide +kernel
theorem dX5_level_12 : decode cX5_level 12 = .ok (.iload 5, 2) := by decide +kernel
theorem dX5_level_14 : decode cX5_level 14 = .ok (.bipush 12, 2) := by decide +kernel
theorem dX5_level_16 : decode cX5_level 16 = .ok (.irem, 1) := by decide +kernel
theorem dX5_level_17 : decode cX5_level 17 = .ok (.iload_n 1, 1) := by decide +kernel
theorem dX5_level_18 : decode cX5_level 18 = .ok (.bipush 12, 2) := by decide +kernel
theorem dX5_level_20 : decode cX5_level 20 = .ok (.irem, 1) := by decide +kernel
theorem dX5_level_21 : decode cX5_level 21 = .ok (.if_icmp .lt 19, 3) := by decide +kernel
theorem dX5_level_24 : decode cX5_level 24 = .ok (.iload 5, 2) := by decide +kernel
theorem dX5_level_26 : decode cX5_level 26 = .ok (.bipush 12, 2) := by decide +kernel
theorem dX5_level_28 : decode cX5_level 28 = .ok (.irem, 1) := by decide +kernel
theorem dX5_level_29 : decode cX5_level 29 = .ok (.iload_n 2, 1) := by decide +kernel
theorem dX5_level_30 : decode cX5_level 30 = .ok (.bipush 12, 2) := by decide +kernel
theorem dX5_level_32 : decode cX5_level 32 = .ok (.irem, 1) := by decide +kernel
theorem dX5_level_33 : decode cX5_level 33 = .ok (.if_icmp .gt 7, 3) := by decide +kernel
theorem dX5_level_36 : decode cX5_level 36 = .ok (.iconst 1, 1) := by decide +kernel
theorem dX5_level_37 : decode cX5_level 37 = .ok (.goto 4, 3) := by decide +kernel
theorem dX5_level_40 : decode cX5_level 40 = .ok (.iconst 0, 1) := by decide +kernel
theorem dX5_level_41 : decode cX5_level 41 = .ok (.istore 6, 2) := by decide +kernel
theorem dX5_level_43 : decode cX5_level 43 = .ok (.iload 6, 2) := by decide +kernel
theorem dX5_level_45 : decode cX5_level 45 = .ok (.ifCond .eq 25, 3) := by decide +kernel
theorem dX5_level_48 : decode cX5_level 48 = .ok (.aload_n 0, 1) := by decide +kernel
theorem dX5_level_49 : decode cX5_level 49 = .ok (.getfield 9, 3) := by decide +kernel
theorem dX5_level_52 : decode cX5_level 52 = .ok (.iload 5, 2) := by decide +kernel
theorem dX5_level_54 : decode cX5_level 54 = .ok (.iaload, 1) := by decide +kernel
theorem dX5_level_55 : decode cX5_level 55 = .ok (.iload_n 3, 1) := by decide +kernel
theorem dX5_level_56 : decode cX5_level 56 = .ok (.if_icmp .eq 14, 3) := by decide +kernel
theorem dX5_level_59 : decode cX5_level 59 = .ok (.aload_n 0, 1) := by decide +kernel
theorem dX5_level_60 : decode cX5_level 60 = .ok (.getfield 9, 3) := by decide +kernel
theorem dX5_level_63 : decode cX5_level 63 = .ok (.iload 5, 2) := by decide +kernel
theorem dX5_level_65 : decode cX5_level 65 = .ok (.iload_n 3, 1) := by decide +kernel
theorem dX5_level_66 : decode cX5_level 66 = .ok (.iastore, 1) := by decide +kernel
theorem dX5_level_67 : decode cX5_level 67 = .ok (.iinc 4 1, 3) := by decide +kernel
theorem dX5_level_70 : decode cX5_level 70 = .ok (.iinc 5 1, 3) := by decide +kernel
theorem dX5_level_73 : decode cX5_level 73 = .ok (.goto (-67), 3) := by decide +kernel
theorem dX5_level_76 : decode cX5_level 76 = .ok (.iload 4, 2) := by decide +kernel
theorem dX5_level_78 : decode cX5_level 78 = .ok (.ireturn, 1) := by decide +kernel
theorem dX5_exits_0 : decode cX5_exits 0 = .ok (.iconst 0, 1) := by decide +kernel
theorem dX5_exits_1 : decode cX5_exits 1 = .ok (.istore_n 2, 1) := by decide +kernel
theorem dX5_exits_2 : decode cX5_exits 2 = .ok (.iconst 0, 1) := by decide +kernel
theorem dX5_exits_3 : decode cX5_exits 3 = .ok (.istore_n 3, 1) := by decide +kernel
theorem dX5_exits_4 : decode cX5_exits 4 = .ok (.iload_n 3, 1) := by decide +kernel
theorem dX5_exits_5 : decode cX5_exits 5 = .ok (.iconst 4, 1) := by decide +kernel
theorem dX5_exits_6 : decode cX5_exits 6 = .ok (.if_icmp .ge 35, 3) := by decide +kernel
theorem dX5_exits_9 : decode cX5_exits 9 = .ok (.iload_n 1, 1) := by decide +kernel
theorem dX5_exits_10 : decode cX5_exits 10 = .ok (.iload_n 3, 1) := by decide +kernel
theorem dX5_exits_11 : decode cX5_exits 11 = .ok (.invokestatic 21, 3) := by decide +kernel
theorem dX5_exits_14 : decode cX5_exits 14 = .ok (.istore 4, 2) := by decide +kernel
theorem dX5_exits_16 : decode cX5_exits 16 = .ok (.iload 4, 2) := by decide +kernel
theorem dX5_exits_18 : decode cX5_exits 18 = .ok (.iconst (-1), 1) := by decide +kernel
theorem dX5_exits_19 : decode cX5_exits 19 = .ok (.if_icmp .eq 16, 3) := by decide +kernel
theorem dX5_exits_22 : decode cX5_exits 22 = .ok (.aload_n 0, 1) := by decide +kernel
theorem dX5_exits_23 : decode cX5_exits 23 = .ok (.iload_n 1, 1) := by decide +kernel
theorem dX5_exits_24 : decode cX5_exits 24 = .ok (.iload 4, 2) := by decide +kernel
theorem dX5_exits_26 : decode cX5_exits 26 = .ok (.invokevirtual 25, 3) := by decide +kernel
theorem dX5_exits_29 : decode cX5_exits 29 = .ok (.ifCond .eq 6, 3) := by decide +kernel
theorem dX5_exits_32 : decode cX5_exits 32 = .ok (.iinc 2 1, 3) := by decide +kernel
theorem dX5_exits_35 : decode cX5_exits 35 = .ok (.iinc 3 1, 3) := by decide +kernel
theorem dX5_exits_38 : decode cX5_exits 38 = .ok (.goto (-34), 3) := by decide +kernel
theorem dX5_exits_41 : decode cX5_exits 41 = .ok (.iload_n 2, 1) := by decide +kernel
theorem dX5_exits_42 : decode cX5_exits 42 = .ok (.ireturn, 1) := by decide +kernel
theorem dX5_cellsInSight_0 : decode cX5_cellsInSight 0 = .ok (.iconst 0, 1) := by decide +kernel
theorem dX5_cellsInSight_1 : decode cX5_cellsInSight 1 = .ok (.istore_n 2, 1) := by decide +kernel
theorem dX5_cellsInSight_2 : decode cX5_cellsInSight 2 = .ok (.iconst 0, 1) := by decide +kernel
theorem dX5_cellsInSight_3 : decode cX5_cellsInSight 3 = .ok (.istore_n 3, 1) := by decide +kernel
theorem dX5_cellsInSight_4 : decode cX5_cellsInSight 4 = .ok (.iload_n 3, 1) := by decide +kernel
theorem dX5_cellsInSight_5 : decode cX5_cellsInSight 5 = .ok (.bipush 96, 2) := by decide +kernel
theorem dX5_cellsInSight_7 : decode cX5_cellsInSight 7 = .ok (.if_icmp .ge 21, 3) := by decide +kernel
theorem dX5_cellsInSight_10 : decode cX5_cellsInSight 10 = .ok (.aload_n 0, 1) := by decide +kernel
theorem dX5_cellsInSight_11 : decode cX5_cellsInSight 11 = .ok (.iload_n 1, 1) := by decide +kernel
theorem dX5_cellsInSight_12 : decode cX5_cellsInSight 12 = .ok (.iload_n 3, 1) := by decide +kernel
theorem dX5_cellsInSight_13 : decode cX5_cellsInSight 13 = .ok (.invokevirtual 42, 3) := by decide +kernel
theorem dX5_cellsInSight_16 : decode cX5_cellsInSight 16 = .ok (.ifCond .eq 6, 3) := by decide +kernel
theorem dX5_cellsInSight_19 : decode cX5_cellsInSight 19 = .ok (.iinc 2 1, 3) := by decide +kernel
theorem dX5_cellsInSight_22 : decode cX5_cellsInSight 22 = .ok (.iinc 3 1, 3) := by decide +kernel
theorem dX5_cellsInSight_25 : decode cX5_cellsInSight 25 = .ok (.goto (-21), 3) := by decide +kernel
theorem dX5_cellsInSight_28 : decode cX5_cellsInSight 28 = .ok (.iload_n 2, 1) := by decide +kernel
theorem dX5_cellsInSight_29 : decode cX5_cellsInSight 29 = .ok (.ireturn, 1) := by decide +kernel
theorem dX6_init_0 : decode cX6_init 0 = .ok (.aload_n 0, 1) := by decide +kernel
theorem dX6_init_1 : decode cX6_init 1 = .ok (.invokespecial 3, 3) := by decide +kernel
theorem dX6_init_4 : decode cX6_init 4 = .ok (.aload_n 0, 1) := by decide +kernel
theorem dX6_init_5 : decode cX6_init 5 = .ok (.bipush 60, 2) := by decide +kernel
theorem dX6_init_7 : decode cX6_init 7 = .ok (.newarray .int, 2) := by decide +kernel
theorem dX6_init_9 : decode cX6_init 9 = .ok (.putfield 9, 3) := by decide +kernel
theorem dX6_init_12 : decode cX6_init 12 = .ok (.aload_n 0, 1) := by decide +kernel
theorem dX6_init_13 : decode cX6_init 13 = .ok (.bipush 10, 2) := by decide +kernel
theorem dX6_init_15 : decode cX6_init 15 = .ok (.newarray .int, 2) := by decide +kernel
theorem dX6_init_17 : decode cX6_init 17 = .ok (.putfield 15, 3) := by decide +kernel
theorem dX6_init_20 : decode cX6_init 20 = .ok (.aload_n 0, 1) := by decide +kernel
theorem dX6_init_21 : decode cX6_init 21 = .ok (.bipush 10, 2) := by decide +kernel
theorem dX6_init_23 : decode cX6_init 23 = .ok (.newarray .int, 2) := by decide +kernel
theorem dX6_init_25 : decode cX6_init 25 = .ok (.putfield 18, 3) := by decide +kernel
theorem dX6_init_28 : decode cX6_init 28 = .ok (.return_, 1) := by decide +kernel
theorem dX6_add_0 : decode cX6_add 0 = .ok (.aload_n 0, 1) := by decide +kernel
theorem dX6_add_1 : decode cX6_add 1 = .ok (.getfield 9, 3) := by decide +kernel
theorem dX6_add_4 : decode cX6_add 4 = .ok (.aload_n 0, 1) := by decide +kernel
theorem dX6_add_5 : decode cX6_add 5 = .ok (.getfield 21, 3) := by decide +kernel
theorem dX6_add_8 : decode cX6_add 8 = .ok (.iload_n 1, 1) := by decide +kernel
theorem dX6_add_9 : decode cX6_add 9 = .ok (.iastore, 1) := by decide +kernel
theorem dX6_add_10 : decode cX6_add 10 = .ok (.aload_n 0, 1) := by decide +kernel
theorem dX6_add_11 : decode cX6_add 11 = .ok (.dup, 1) := by decide +kernel
theorem dX6_add_12 : decode cX6_add 12 = .ok (.getfield 21, 3) := by decide +kernel
theorem dX6_add_15 : decode cX6_add 15 = .ok (.iconst 1, 1) := by decide +kernel
theorem dX6_add_16 : decode cX6_add 16 = .ok (.iadd, 1) := by decide +kernel
theorem dX6_add_17 : decode cX6_add 17 = .ok (.putfield 21, 3) := by decide +kernel
theorem dX6_add_20 : decode cX6_add 20 = .ok (.aload_n 0, 1) := by decide +kernel
theorem dX6_add_21 : decode cX6_add 21 = .ok (.getfield 21, 3) := by decide +kernel
theorem dX6_add_24 : decode cX6_add 24 = .ok (.ireturn, 1) := by decide +kernel
theorem dX6_isDigit_0 : decode cX6_isDigit 0 = .ok (.iload_n 0, 1) := by decide +kernel
theorem dX6_isDigit_1 : decode cX6_isDigit 1 = .ok (.bipush 48, 2) := by decide +kernel
theorem dX6_isDigit_3 : decode cX6_isDigit 3 = .ok (.if_icmp .lt 12, 3) := by decide +kernel
theorem dX6_isDigit_6 : decode cX6_isDigit 6 = .ok (.iload_n 0, 1) := by decide +kernel
theorem dX6_isDigit_7 : decode cX6_isDigit 7 = .ok (.iload_n 1, 1) := by decide +kernel
theorem dX6_isDigit_8 : decode cX6_isDigit 8 = .ok (.if_icmp .gt 7, 3) := by decide +kernel
theorem dX6_isDigit_11 : decode cX6_isDigit 11 = .ok (.iconst 1, 1) := by decide +kernel
theorem dX6_isDigit_12 : decode cX6_isDigit 12 = .ok (.goto 4, 3) := by decide +kernel
theorem dX6_isDigit_15 : decode cX6_isDigit 15 = .ok (.iconst 0, 1) := by decide +kernel
theorem dX6_isDigit_16 : decode cX6_isDigit 16 = .ok (.ireturn, 1) := by decide +kernel
theorem dX6_afterDigit_0 : decode cX6_afterDigit 0 = .ok (.iload_n 0, 1) := by decide +kernel
theorem dX6_afterDigit_1 : decode cX6_afterDigit 1 = .ok (.bipush 57, 2) := by decide +kernel
theorem dX6_afterDigit_3 : decode cX6_afterDigit 3 = .ok (.invokestatic 29, 3) := by decide +kernel
theorem dX6_afterDigit_6 : decode cX6_afterDigit 6 = .ok (.ifCond .ne 5, 3) := by decide +kernel
theorem dX6_afterDigit_9 : decode cX6_afterDigit 9 = .ok (.iconst (-1), 1) := by decide +kernel
theorem dX6_afterDigit_10 : decode cX6_afterDigit 10 = .ok (.ireturn, 1) := by decide +kernel
theorem dX6_afterDigit_11 : decode cX6_afterDigit 11 = .ok (.iload_n 0, 1) := by decide +kernel
theorem dX6_afterDigit_12 : decode cX6_afterDigit 12 = .ok (.bipush 49, 2) := by decide +kernel
theorem dX6_afterDigit_14 : decode cX6_afterDigit 14 = .ok (.if_icmp .ne 7, 3) := by decide +kernel
theorem dX6_afterDigit_17 : decode cX6_afterDigit 17 = .ok (.iload_n 1, 1) := by decide +kernel
theorem dX6_afterDigit_18 : decode cX6_afterDigit 18 = .ok (.goto 4, 3) := by decide +kernel
theorem dX6_afterDigit_21 : decode cX6_afterDigit 21 = .ok (.iload_n 2, 1) := by decide +kernel
theorem dX6_afterDigit_22 : decode cX6_afterDigit 22 = .ok (.ireturn, 1) := by decide +kernel
theorem dX6_afterSign_0 : decode cX6_afterSign 0 = .ok (.iload_n 0, 1) := by decide +kernel
theorem dX6_afterSign_1 : decode cX6_afterSign 1 = .ok (.iload_n 1, 1) := by decide +kernel
theorem dX6_afterSign_2 : decode cX6_afterSign 2 = .ok (.if_icmp .ne 7, 3) := by decide +kernel
theorem dX6_afterSign_5 : decode cX6_afterSign 5 = .ok (.iload_n 2, 1) := by decide +kernel
theorem dX6_afterSign_6 : decode cX6_afterSign 6 = .ok (.goto 4, 3) := by decide +kernel
theorem dX6_afterSign_9 : decode cX6_afterSign 9 = .ok (.iconst (-1), 1) := by decide +kernel
theorem dX6_afterSign_10 : decode cX6_afterSign 10 = .ok (.ireturn, 1) := by decide +kernel
theorem dX6_stageAfter_0 : decode cX6_stageAfter 0 = .ok (.iload_n 0, 1) := by decide +kernel
theorem dX6_stageAfter_1 : decode cX6_stageAfter 1 = .ok (.tableswitch 145 0 7 #[47, 54, 75, 83, 90, 112, 121, 137], 47) := by decide +kernel
theorem dX6_stageAfter_48 : decode cX6_stageAfter 48 = .ok (.iload_n 1, 1) := by decide +kernel
theorem dX6_stageAfter_49 : decode cX6_stageAfter 49 = .ok (.iconst 1, 1) := by decide +kernel
theorem dX6_stageAfter_50 : decode cX6_stageAfter 50 = .ok (.iconst 2, 1) := by decide +kernel
theorem dX6_stageAfter_51 : decode cX6_stageAfter 51 = .ok (.invokestatic 33, 3) := by decide +kernel
theorem dX6_stageAfter_54 : decode cX6_stageAfter 54 = .ok (.ireturn, 1) := by decide +kernel
theorem dX6_stageAfter_55 : decode cX6_stageAfter 55 = .ok (.iload_n 1, 1) := by decide +kernel
theorem dX6_stageAfter_56 : decode cX6_stageAfter 56 = .ok (.bipush 49, 2) := by decide +kernel
theorem dX6_stageAfter_58 : decode cX6_stageAfter 58 = .ok (.invokestatic 29, 3) := by decide +kernel
theorem dX6_stageAfter_61 : decode cX6_stageAfter 61 = .ok (.ifCond .eq 7, 3) := by decide +kernel
theorem dX6_stageAfter_64 : decode cX6_stageAfter 64 = .ok (.iconst 2, 1) := by decide +kernel
theorem dX6_stageAfter_65 : decode cX6_stageAfter 65 = .ok (.goto 10, 3) := by decide +kernel
theorem dX6_stageAfter_68 : decode cX6_stageAfter 68 = .ok (.iload_n 1, 1) := by decide +kernel
theorem dX6_stageAfter_69 : decode cX6_stageAfter 69 = .ok (.bipush 62, 2) := by decide +kernel
theorem dX6_stageAfter_71 : decode cX6_stageAfter 71 = .ok (.iconst 3, 1) := by decide +kernel
theorem dX6_stageAfter_72 : decode cX6_stageAfter 72 = .ok (.invokestatic 37, 3) := by decide +kernel
theorem dX6_stageAfter_75 : decode cX6_stageAfter 75 = .ok (.ireturn, 1) := by decide +kernel
theorem dX6_stageAfter_76 : decode cX6_stageAfter 76 = .ok (.iload_n 1, 1) := by decide +kernel
theorem dX6_stageAfter_77 : decode cX6_stageAfter 77 = .ok (.bipush 62, 2) := by decide +kernel
theorem dX6_stageAfter_79 : decode cX6_stageAfter 79 = .ok (.iconst 3, 1) := by decide +kernel
theorem dX6_stageAfter_80 : decode cX6_stageAfter 80 = .ok (.invokestatic 37, 3) := by decide +kernel
theorem dX6_stageAfter_83 : decode cX6_stageAfter 83 = .ok (.ireturn, 1) := by decide +kernel
theorem dX6_stageAfter_84 : decode cX6_stageAfter 84 = .ok (.iload_n 1, 1) := by decide +kernel
theorem dX6_stageAfter_85 : decode cX6_stageAfter 85 = .ok (.iconst 4, 1) := by decide +kernel
theorem dX6_stageAfter_86 : decode cX6_stageAfter 86 = .ok (.iconst 5, 1) := by decide +kernel
theorem dX6_stageAfter_87 : decode cX6_stageAfter 87 = .ok (.invokestatic 33, 3) := by decide +kernel
theorem dX6_stageAfter_90 : decode cX6_stageAfter 90 = .ok (.ireturn, 1) := by decide +kernel
theorem dX6_stageAfter_91 : decode cX6_stageAfter 91 = .ok (.iload_n 1, 1) := by decide +kernel
theorem dX6_stageAfter_92 : decode cX6_stageAfter 92 = .ok (.bipush 49, 2) := by decide +kernel
theorem dX6_stageAfter_94 : decode cX6_stageAfter 94 = .ok (.invokestatic 29, 3) := by decide +kernel
theorem dX6_stageAfter_97 : decode cX6_stageAfter 97 = .ok (.ifCond .eq 7, 3) := by decide +kernel
theorem dX6_stageAfter_100 : decode cX6_stageAfter 100 = .ok (.iconst 5, 1) := by decide +kernel
theorem dX6_stageAfter_101 : decode cX6_stageAfter 101 = .ok (.goto 11, 3) := by decide +kernel
theorem dX6_stageAfter_104 : decode cX6_stageAfter 104 = .ok (.iload_n 1, 1) := by decide +kernel
theorem dX6_stageAfter_105 : decode cX6_stageAfter 105 = .ok (.bipush 44, 2) := by decide +kernel
theorem dX6_stageAfter_107 : decode cX6_stageAfter 107 = .ok (.bipush 6, 2) := by decide +kernel
theorem dX6_stageAfter_109 : decode cX6_stageAfter 109 = .ok (.invokestatic 37, 3) := by decide +kernel
theorem dX6_stageAfter_112 : decode cX6_stageAfter 112 = .ok (.ireturn, 1) := by decide +kernel
theorem dX6_stageAfter_113 : decode cX6_stageAfter 113 = .ok (.iload_n 1, 1) := by decide +kernel
theorem dX6_stageAfter_114 : decode cX6_stageAfter 114 = .ok (.bipush 44, 2) := by decide +kernel
theorem dX6_stageAfter_116 : decode cX6_stageAfter 116 = .ok (.bipush 6, 2) := by decide +kernel
theorem dX6_stageAfter_118 : decode cX6_stageAfter 118 = .ok (.invokestatic 37, 3) := by decide +kernel
theorem dX6_stageAfter_121 : decode cX6_stageAfter 121 = .ok (.ireturn, 1) := by decide +kernel
theorem dX6_stageAfter_122 : decode cX6_stageAfter 122 = .ok (.iload_n 1, 1) := by decide +kernel
theorem dX6_stageAfter_123 : decode cX6_stageAfter 123 = .ok (.bipush 55, 2) := by decide +kernel
theorem dX6_stageAfter_125 : decode cX6_stageAfter 125 = .ok (.invokestatic 29, 3) := by decide +kernel
theorem dX6_stageAfter_128 : decode cX6_stageAfter 128 = .ok (.ifCond .eq 8, 3) := by decide +kernel
theorem dX6_stageAfter_131 : decode cX6_stageAfter 131 = .ok (.bipush 7, 2) := by decide +kernel
theorem dX6_stageAfter_133 : decode cX6_stageAfter 133 = .ok (.goto 4, 3) := by decide +kernel
theorem dX6_stageAfter_136 : decode cX6_stageAfter 136 = .ok (.iconst (-1), 1) := by decide +kernel
theorem dX6_stageAfter_137 : decode cX6_stageAfter 137 = .ok (.ireturn, 1) := by decide +kernel
theorem dX6_stageAfter_138 : decode cX6_stageAfter 138 = .ok (.iload_n 1, 1) := by decide +kernel
theorem dX6_stageAfter_139 : decode cX6_stageAfter 139 = .ok (.bipush 59, 2) := by decide +kernel
theorem dX6_stageAfter_141 : decode cX6_stageAfter 141 = .ok (.iconst 0, 1) := by decide +kernel
theorem dX6_stageAfter_142 : decode cX6_stageAfter 142 = .ok (.invokestatic 37, 3) := by decide +kernel
theorem dX6_stageAfter_145 : decode cX6_stageAfter 145 = .ok (.ireturn, 1) := by decide +kernel
theorem dX6_stageAfter_146 : decode cX6_stageAfter 146 = .ok (.iconst (-1), 1) := by decide +kernel
theorem dX6_stageAfter_147 : decode cX6_stageAfter 147 = .ok (.ireturn, 1) := by decide +kernel
theorem dX6_firstFault_0 : decode cX6_firstFault 0 = .ok (.iconst 0, 1) := by decide +kernel
theorem dX6_firstFault_1 : decode cX6_firstFault 1 = .ok (.istore_n 1, 1) := by decide +kernel
theorem dX6_firstFault_2 : decode cX6_firstFault 2 = .ok (.iconst 0, 1) := by decide +kernel
theorem dX6_firstFault_3 : decode cX6_firstFault 3 = .ok (.istore_n 2, 1) := by decide +kernel
theorem dX6_firstFault_4 : decode cX6_firstFault 4 = .ok (.iload_n 2, 1) := by decide +kernel
theorem dX6_firstFault_5 : decode cX6_firstFault 5 = .ok (.aload_n 0, 1) := by decide +kernel
theorem dX6_firstFault_6 : decode cX6_firstFault 6 = .ok (.getfield 21, 3) := by decide +kernel
theorem dX6_firstFault_9 : decode cX6_firstFault 9 = .ok (.if_icmp .ge 27, 3) := by decide +kernel
theorem dX6_firstFault_12 : decode cX6_firstFault 12 = .ok (.iload_n 1, 1) := by decide +kernel
theorem dX6_firstFault_13 : decode cX6_firstFault 13 = .ok (.aload_n 0, 1) := by decide +kernel
theorem dX6_firstFault_14 : decode cX6_firstFault 14 = .ok (.getfield 9, 3) := by decide +kernel
theorem dX6_firstFault_17 : decode cX6_firstFault 17 = .ok (.iload_n 2, 1) := by decide +kernel
theorem dX6_firstFault_18 : decode cX6_firstFault 18 = .ok (.iaload, 1) := by decide +kernel
theorem dX6_firstFault_19 : decode cX6_firstFault 19 = .ok (.invokestatic 25, 3) := by decide +kernel
theorem dX6_firstFault_22 : decode cX6_firstFault 22 = .ok (.istore_n 1, 1) := by decide +kernel
theorem dX6_firstFault_23 : decode cX6_firstFault 23 = .ok (.iload_n 1, 1) := by decide +kernel
theorem dX6_firstFault_24 : decode cX6_firstFault 24 = .ok (.iconst (-1), 1) := by decide +kernel
theorem dX6_firstFault_25 : decode cX6_firstFault 25 = .ok (.if_icmp .ne 5, 3) := by decide +kernel
theorem dX6_firstFault_28 : decode cX6_firstFault 28 = .ok (.iload_n 2, 1) := by decide +kernel
theorem dX6_firstFault_29 : decode cX6_firstFault 29 = .ok (.ireturn, 1) := by decide +kernel
theorem dX6_firstFault_30 : decode cX6_firstFault 30 = .ok (.iinc 2 1, 3) := by decide +kernel
theorem dX6_firstFault_33 : decode cX6_firstFault 33 = .ok (.goto (-29), 3) := by decide +kernel
theorem dX6_firstFault_36 : decode cX6_firstFault 36 = .ok (.aload_n 0, 1) := by decide +kernel
theorem dX6_firstFault_37 : decode cX6_firstFault 37 = .ok (.getfield 21, 3) := by decide +kernel
theorem dX6_firstFault_40 : decode cX6_firstFault 40 = .ok (.ireturn, 1) := by decide +kernel
theorem dX6_isComplete_0 : decode cX6_isComplete 0 = .ok (.iconst 0, 1) := by decide +kernel
theorem dX6_isComplete_1 : decode cX6_isComplete 1 = .ok (.istore_n 1, 1) := by decide +kernel
theorem dX6_isComplete_2 : decode cX6_isComplete 2 = .ok (.iconst 0, 1) := by decide +kernel
theorem dX6_isComplete_3 : decode cX6_isComplete 3 = .ok (.istore_n 2, 1) := by decide +kernel
theorem dX6_isComplete_4 : decode cX6_isComplete 4 = .ok (.iload_n 2, 1) := by decide +kernel
theorem dX6_isComplete_5 : decode cX6_isComplete 5 = .ok (.aload_n 0, 1) := by decide +kernel
theorem dX6_isComplete_6 : decode cX6_isComplete 6 = .ok (.getfield 21, 3) := by decide +kernel
theorem dX6_isComplete_9 : decode cX6_isComplete 9 = .ok (.if_icmp .ge 20, 3) := by decide +kernel
theorem dX6_isComplete_12 : decode cX6_isComplete 12 = .ok (.iload_n 1, 1) := by decide +kernel
theorem dX6_isComplete_13 : decode cX6_isComplete 13 = .ok (.aload_n 0, 1) := by decide +kernel
theorem dX6_isComplete_14 : decode cX6_isComplete 14 = .ok (.getfield 9, 3) := by decide +kernel
theorem dX6_isComplete_17 : decode cX6_isComplete 17 = .ok (.iload_n 2, 1) := by decide +kernel
theorem dX6_isComplete_18 : decode cX6_isComplete 18 = .ok (.iaload, 1) := by decide +kernel
theorem dX6_isComplete_19 : decode cX6_isComplete 19 = .ok (.invokestatic 25, 3) := by decide +kernel
theorem dX6_isComplete_22 : decode cX6_isComplete 22 = .ok (.istore_n 1, 1) := by decide +kernel
theorem dX6_isComplete_23 : decode cX6_isComplete 23 = .ok (.iinc 2 1, 3) := by decide +kernel
theorem dX6_isComplete_26 : decode cX6_isComplete 26 = .ok (.goto (-22), 3) := by decide +kernel
theorem dX6_isComplete_29 : decode cX6_isComplete 29 = .ok (.iload_n 1, 1) := by decide +kernel
theorem dX6_isComplete_30 : decode cX6_isComplete 30 = .ok (.bipush 7, 2) := by decide +kernel
theorem dX6_isComplete_32 : decode cX6_isComplete 32 = .ok (.if_icmp .ne 7, 3) := by decide +kernel
theorem dX6_isComplete_35 : decode cX6_isComplete 35 = .ok (.iconst 1, 1) := by decide +kernel
theorem dX6_isComplete_36 : decode cX6_isComplete 36 = .ok (.goto 4, 3) := by decide +kernel
theorem dX6_isComplete_39 : decode cX6_isComplete 39 = .ok (.iconst 0, 1) := by decide +kernel
theorem dX6_isComplete_40 : decode cX6_isComplete 40 = .ok (.ireturn, 1) := by decide +kernel
theorem dX6_readOrders_0 : decode cX6_readOrders 0 = .ok (.iconst 0, 1) := by decide +kernel
theorem dX6_readOrders_1 : decode cX6_readOrders 1 = .ok (.istore_n 1, 1) := by decide +kernel
theorem dX6_readOrders_2 : decode cX6_readOrders 2 = .ok (.iconst 0, 1) := by decide +kernel
theorem dX6_readOrders_3 : decode cX6_readOrders 3 = .ok (.istore_n 2, 1) := by decide +kernel
theorem dX6_readOrders_4 : decode cX6_readOrders 4 = .ok (.iconst 0, 1) := by decide +kernel
theorem dX6_readOrders_5 : decode cX6_readOrders 5 = .ok (.istore_n 3, 1) := by decide +kernel
theorem dX6_readOrders_6 : decode cX6_readOrders 6 = .ok (.iconst 0, 1) := by decide +kernel
theorem dX6_readOrders_7 : decode cX6_readOrders 7 = .ok (.istore 4, 2) := by decide +kernel
theorem dX6_readOrders_9 : decode cX6_readOrders 9 = .ok (.iload 4, 2) := by decide +kernel
theorem dX6_readOrders_11 : decode cX6_readOrders 11 = .ok (.aload_n 0, 1) := by decide +kernel
theorem dX6_readOrders_12 : decode cX6_readOrders 12 = .ok (.getfield 21, 3) := by decide +kernel
theorem dX6_readOrders_15 : decode cX6_readOrders 15 = .ok (.if_icmp .ge 113, 3) := by decide +kernel
theorem dX6_readOrders_18 : decode cX6_readOrders 18 = .ok (.iload_n 1, 1) := by decide +kernel
theorem dX6_readOrders_19 : decode cX6_readOrders 19 = .ok (.bipush 10, 2) := by decide +kernel
theorem dX6_readOrders_21 : decode cX6_readOrders 21 = .ok (.if_icmp .ge 107, 3) := by decide +kernel
theorem dX6_readOrders_24 : decode cX6_readOrders 24 = .ok (.aload_n 0, 1) := by decide +kernel
theorem dX6_readOrders_25 : decode cX6_readOrders 25 = .ok (.getfield 9, 3) := by decide +kernel
theorem dX6_readOrders_28 : decode cX6_readOrders 28 = .ok (.iload 4, 2) := by decide +kernel
theorem dX6_readOrders_30 : decode cX6_readOrders 30 = .ok (.iaload, 1) := by decide +kernel
theorem dX6_readOrders_31 : decode cX6_readOrders 31 = .ok (.istore 5, 2) := by decide +kernel
theorem dX6_readOrders_33 : decode cX6_readOrders 33 = .ok (.iload 5, 2) := by decide +kernel
theorem dX6_readOrders_35 : decode cX6_readOrders 35 = .ok (.bipush 57, 2) := by decide +kernel
theorem dX6_readOrders_37 : decode cX6_readOrders 37 = .ok (.invokestatic 29, 3) := by decide +kernel
theorem dX6_readOrders_40 : decode cX6_readOrders 40 = .ok (.ifCond .eq 17, 3) := by decide +kernel
theorem dX6_readOrders_43 : decode cX6_readOrders 43 = .ok (.bipush 10, 2) := by decide +kernel
theorem dX6_readOrders_45 : decode cX6_readOrders 45 = .ok (.iload_n 2, 1) := by decide +kernel
theorem dX6_readOrders_46 : decode cX6_readOrders 46 = .ok (.imul, 1) := by decide +kernel
theorem dX6_readOrders_47 : decode cX6_readOrders 47 = .ok (.iload 5, 2) := by decide +kernel
theorem dX6_readOrders_49 : decode cX6_readOrders 49 = .ok (.iadd, 1) := by decide +kernel
theorem dX6_readOrders_50 : decode cX6_readOrders 50 = .ok (.bipush 48, 2) := by decide +kernel
theorem dX6_readOrders_52 : decode cX6_readOrders 52 = .ok (.isub, 1) := by decide +kernel
theorem dX6_readOrders_53 : decode cX6_readOrders 53 = .ok (.istore_n 2, 1) := by decide +kernel
theorem dX6_readOrders_54 : decode cX6_readOrders 54 = .ok (.goto 33, 3) := by decide +kernel
theorem dX6_readOrders_57 : decode cX6_readOrders 57 = .ok (.iload 5, 2) := by decide +kernel
theorem dX6_readOrders_59 : decode cX6_readOrders 59 = .ok (.bipush 62, 2) := by decide +kernel
theorem dX6_readOrders_61 : decode cX6_readOrders 61 = .ok (.if_icmp .ne 15, 3) := by decide +kernel
theorem dX6_readOrders_64 : decode cX6_readOrders 64 = .ok (.aload_n 0, 1) := by decide +kernel
theorem dX6_readOrders_65 : decode cX6_readOrders 65 = .ok (.getfield 15, 3) := by decide +kernel
theorem dX6_readOrders_68 : decode cX6_readOrders 68 = .ok (.iload_n 1, 1) := by decide +kernel
theorem dX6_readOrders_69 : decode cX6_readOrders 69 = .ok (.iload_n 2, 1) := by decide +kernel
theorem dX6_readOrders_70 : decode cX6_readOrders 70 = .ok (.iastore, 1) := by decide +kernel
theorem dX6_readOrders_71 : decode cX6_readOrders 71 = .ok (.iconst 0, 1) := by decide +kernel
theorem dX6_readOrders_72 : decode cX6_readOrders 72 = .ok (.istore_n 2, 1) := by decide +kernel
theorem dX6_readOrders_73 : decode cX6_readOrders 73 = .ok (.goto 14, 3) := by decide +kernel
theorem dX6_readOrders_76 : decode cX6_readOrders 76 = .ok (.iload 5, 2) := by decide +kernel
theorem dX6_readOrders_78 : decode cX6_readOrders 78 = .ok (.bipush 44, 2) := by decide +kernel
theorem dX6_readOrders_80 : decode cX6_readOrders 80 = .ok (.if_icmp .ne 7, 3) := by decide +kernel
theorem dX6_readOrders_83 : decode cX6_readOrders 83 = .ok (.iload_n 2, 1) := by decide +kernel
theorem dX6_readOrders_84 : decode cX6_readOrders 84 = .ok (.istore_n 3, 1) := by decide +kernel
theorem dX6_readOrders_85 : decode cX6_readOrders 85 = .ok (.iconst 0, 1) := by decide +kernel
theorem dX6_readOrders_86 : decode cX6_readOrders 86 = .ok (.istore_n 2, 1) := by decide +kernel
theorem dX6_readOrders_87 : decode cX6_readOrders 87 = .ok (.iload 5, 2) := by decide +kernel
theorem dX6_readOrders_89 : decode cX6_readOrders 89 = .ok (.bipush 59, 2) := by decide +kernel
theorem dX6_readOrders_91 : decode cX6_readOrders 91 = .ok (.if_icmp .eq 14, 3) := by decide +kernel
theorem dX6_readOrders_94 : decode cX6_readOrders 94 = .ok (.iload 4, 2) := by decide +kernel
theorem dX6_readOrders_96 : decode cX6_readOrders 96 = .ok (.aload_n 0, 1) := by decide +kernel
theorem dX6_readOrders_97 : decode cX6_readOrders 97 = .ok (.getfield 21, 3) := by decide +kernel
theorem dX6_readOrders_100 : decode cX6_readOrders 100 = .ok (.iconst 1, 1) := by decide +kernel
theorem dX6_readOrders_101 : decode cX6_readOrders 101 = .ok (.isub, 1) := by decide +kernel
theorem dX6_readOrders_102 : decode cX6_readOrders 102 = .ok (.if_icmp .ne 20, 3) := by decide +kernel
theorem dX6_readOrders_105 : decode cX6_readOrders 105 = .ok (.aload_n 0, 1) := by decide +kernel
theorem dX6_readOrders_106 : decode cX6_readOrders 106 = .ok (.getfield 18, 3) := by decide +kernel
theorem dX6_readOrders_109 : decode cX6_readOrders 109 = .ok (.iload_n 1, 1) := by decide +kernel
theorem dX6_readOrders_110 : decode cX6_readOrders 110 = .ok (.bipush 12, 2) := by decide +kernel
theorem dX6_readOrders_112 : decode cX6_readOrders 112 = .ok (.iload_n 2, 1) := by decide +kernel
theorem dX6_readOrders_113 : decode cX6_readOrders 113 = .ok (.imul, 1) := by decide +kernel
theorem dX6_readOrders_114 : decode cX6_readOrders 114 = .ok (.iload_n 3, 1) := by decide +kernel
theorem dX6_readOrders_115 : decode cX6_readOrders 115 = .ok (.iadd, 1) := by decide +kernel
theorem dX6_readOrders_116 : decode cX6_readOrders 116 = .ok (.iastore, 1) := by decide +kernel
theorem dX6_readOrders_117 : decode cX6_readOrders 117 = .ok (.iconst 0, 1) := by decide +kernel
theorem dX6_readOrders_118 : decode cX6_readOrders 118 = .ok (.istore_n 2, 1) := by decide +kernel
theorem dX6_readOrders_119 : decode cX6_readOrders 119 = .ok (.iinc 1 1, 3) := by decide +kernel
theorem dX6_readOrders_122 : decode cX6_readOrders 122 = .ok (.iinc 4 1, 3) := by decide +kernel
theorem dX6_readOrders_125 : decode cX6_readOrders 125 = .ok (.goto (-116), 3) := by decide +kernel
theorem dX6_readOrders_128 : decode cX6_readOrders 128 = .ok (.iload_n 1, 1) := by decide +kernel
theorem dX6_readOrders_129 : decode cX6_readOrders 129 = .ok (.ireturn, 1) := by decide +kernel
theorem dX7_muster_0 : decode cX7_muster 0 = .ok (.aload_n 0, 1) := by decide +kernel
theorem dX7_muster_1 : decode cX7_muster 1 = .ok (.iload_n 1, 1) := by decide +kernel
theorem dX7_muster_2 : decode cX7_muster 2 = .ok (.putfield 9, 3) := by decide +kernel
theorem dX7_muster_5 : decode cX7_muster 5 = .ok (.aload_n 0, 1) := by decide +kernel
theorem dX7_muster_6 : decode cX7_muster 6 = .ok (.iload_n 2, 1) := by decide +kernel
theorem dX7_muster_7 : decode cX7_muster 7 = .ok (.putfield 15, 3) := by decide +kernel
theorem dX7_muster_10 : decode cX7_muster 10 = .ok (.aload_n 0, 1) := by decide +kernel
theorem dX7_muster_11 : decode cX7_muster 11 = .ok (.iload_n 3, 1) := by decide +kernel
theorem dX7_muster_12 : decode cX7_muster 12 = .ok (.putfield 18, 3) := by decide +kernel
theorem dX7_muster_15 : decode cX7_muster 15 = .ok (.aload_n 0, 1) := by decide +kernel
theorem dX7_muster_16 : decode cX7_muster 16 = .ok (.iload_n 2, 1) := by decide +kernel
theorem dX7_muster_17 : decode cX7_muster 17 = .ok (.putfield 21, 3) := by decide +kernel
theorem dX7_muster_20 : decode cX7_muster 20 = .ok (.aload_n 0, 1) := by decide +kernel
theorem dX7_muster_21 : decode cX7_muster 21 = .ok (.iconst 0, 1) := by decide +kernel
theorem dX7_muster_22 : decode cX7_muster 22 = .ok (.putfield 24, 3) := by decide +kernel
theorem dX7_muster_25 : decode cX7_muster 25 = .ok (.aload_n 0, 1) := by decide +kernel
theorem dX7_muster_26 : decode cX7_muster 26 = .ok (.iload_n 3, 1) := by decide +kernel
theorem dX7_muster_27 : decode cX7_muster 27 = .ok (.putfield 27, 3) := by decide +kernel
theorem dX7_muster_30 : decode cX7_muster 30 = .ok (.aload_n 0, 1) := by decide +kernel
theorem dX7_muster_31 : decode cX7_muster 31 = .ok (.iconst 0, 1) := by decide +kernel
theorem dX7_muster_32 : decode cX7_muster 32 = .ok (.putfield 30, 3) := by decide +kernel
theorem dX7_muster_35 : decode cX7_muster 35 = .ok (.aload_n 0, 1) := by decide +kernel
theorem dX7_muster_36 : decode cX7_muster 36 = .ok (.iconst 0, 1) := by decide +kernel
theorem dX7_muster_37 : decode cX7_muster 37 = .ok (.putfield 33, 3) := by decide +kernel
theorem dX7_muster_40 : decode cX7_muster 40 = .ok (.return_, 1) := by decide +kernel
theorem dX8_recruit_0 : decode cX8_recruit 0 = .ok (.aload_n 0, 1) := by decide +kernel
theorem dX8_recruit_1 : decode cX8_recruit 1 = .ok (.getfield 43, 3) := by decide +kernel
theorem dX8_recruit_4 : decode cX8_recruit 4 = .ok (.istore 4, 2) := by decide +kernel
theorem dX8_recruit_6 : decode cX8_recruit 6 = .ok (.aload_n 0, 1) := by decide +kernel
theorem dX8_recruit_7 : decode cX8_recruit 7 = .ok (.getfield 24, 3) := by decide +kernel
theorem dX8_recruit_10 : decode cX8_recruit 10 = .ok (.iload 4, 2) := by decide +kernel
theorem dX8_recruit_12 : decode cX8_recruit 12 = .ok (.aaload, 1) := by decide +kernel
theorem dX8_recruit_13 : decode cX8_recruit 13 = .ok (.iload_n 1, 1) := by decide +kernel
theorem dX8_recruit_14 : decode cX8_recruit 14 = .ok (.iload_n 2, 1) := by decide +kernel
theorem dX8_recruit_15 : decode cX8_recruit 15 = .ok (.iload_n 3, 1) := by decide +kernel
theorem dX8_recruit_16 : decode cX8_recruit 16 = .ok (.invokevirtual 65, 3) := by decide +kernel
theorem dX8_recruit_19 : decode cX8_recruit 19 = .ok (.aload_n 0, 1) := by decide +kernel
theorem dX8_recruit_20 : decode cX8_recruit 20 = .ok (.dup, 1) := by decide +kernel
theorem dX8_recruit_21 : decode cX8_recruit 21 = .ok (.getfield 43, 3) := by decide +kernel
theorem dX8_recruit_24 : decode cX8_recruit 24 = .ok (.iconst 1, 1) := by decide +kernel
theorem dX8_recruit_25 : decode cX8_recruit 25 = .ok (.iadd, 1) := by decide +kernel
theorem dX8_recruit_26 : decode cX8_recruit 26 = .ok (.putfield 43, 3) := by decide +kernel
theorem dX8_recruit_29 : decode cX8_recruit 29 = .ok (.iload 4, 2) := by decide +kernel
theorem dX8_recruit_31 : decode cX8_recruit 31 = .ok (.ireturn, 1) := by decide +kernel
theorem dX8_enqueue_0 : decode cX8_enqueue 0 = .ok (.aload_n 0, 1) := by decide +kernel
theorem dX8_enqueue_1 : decode cX8_enqueue 1 = .ok (.getfield 50, 3) := by decide +kernel
theorem dX8_enqueue_4 : decode cX8_enqueue 4 = .ok (.istore 4, 2) := by decide +kernel
theorem dX8_enqueue_6 : decode cX8_enqueue 6 = .ok (.iload 4, 2) := by decide +kernel
theorem dX8_enqueue_8 : decode cX8_enqueue 8 = .ok (.ifCond .le 44, 3) := by decide +kernel
theorem dX8_enqueue_11 : decode cX8_enqueue 11 = .ok (.aload_n 0, 1) := by decide +kernel
theorem dX8_enqueue_12 : decode cX8_enqueue 12 = .ok (.getfield 30, 3) := by decide +kernel
theorem dX8_enqueue_15 : decode cX8_enqueue 15 = .ok (.iload 4, 2) := by decide +kernel
theorem dX8_enqueue_17 : decode cX8_enqueue 17 = .ok (.iconst 1, 1) := by decide +kernel
theorem dX8_enqueue_18 : decode cX8_enqueue 18 = .ok (.isub, 1) := by decide +kernel
theorem dX8_enqueue_19 : decode cX8_enqueue 19 = .ok (.aaload, 1) := by decide +kernel
theorem dX8_enqueue_20 : decode cX8_enqueue 20 = .ok (.getfield 69, 3) := by decide +kernel
theorem dX8_enqueue_23 : decode cX8_enqueue 23 = .ok (.iload_n 3, 1) := by decide +kernel
theorem dX8_enqueue_24 : decode cX8_enqueue 24 = .ok (.if_icmp .le 28, 3) := by decide +kernel
theorem dX8_enqueue_27 : decode cX8_enqueue 27 = .ok (.aload_n 0, 1) := by decide +kernel
theorem dX8_enqueue_28 : decode cX8_enqueue 28 = .ok (.getfield 30, 3) := by decide +kernel
theorem dX8_enqueue_31 : decode cX8_enqueue 31 = .ok (.iload 4, 2) := by decide +kernel
theorem dX8_enqueue_33 : decode cX8_enqueue 33 = .ok (.aaload, 1) := by decide +kernel
theorem dX8_enqueue_34 : decode cX8_enqueue 34 = .ok (.aload_n 0, 1) := by decide +kernel
theorem dX8_enqueue_35 : decode cX8_enqueue 35 = .ok (.getfield 30, 3) := by decide +kernel
theorem dX8_enqueue_38 : decode cX8_enqueue 38 = .ok (.iload 4, 2) := by decide +kernel
theorem dX8_enqueue_40 : decode cX8_enqueue 40 = .ok (.iconst 1, 1) := by decide +kernel
theorem dX8_enqueue_41 : decode cX8_enqueue 41 = .ok (.isub, 1) := by decide +kernel
theorem dX8_enqueue_42 : decode cX8_enqueue 42 = .ok (.aaload, 1) := by decide +kernel
theorem dX8_enqueue_43 : decode cX8_enqueue 43 = .ok (.invokevirtual 53, 3) := by decide +kernel
theorem dX8_enqueue_46 : decode cX8_enqueue 46 = .ok (.iinc 4 (-1), 3) := by decide +kernel
theorem dX8_enqueue_49 : decode cX8_enqueue 49 = .ok (.goto (-43), 3) := by decide +kernel
theorem dX8_enqueue_52 : decode cX8_enqueue 52 = .ok (.aload_n 0, 1) := by decide +kernel
theorem dX8_enqueue_53 : decode cX8_enqueue 53 = .ok (.getfield 30, 3) := by decide +kernel
theorem dX8_enqueue_56 : decode cX8_enqueue 56 = .ok (.iload 4, 2) := by decide +kernel
theorem dX8_enqueue_58 : decode cX8_enqueue 58 = .ok (.aaload, 1) := by decide +kernel
theorem dX8_enqueue_59 : decode cX8_enqueue 59 = .ok (.aload_n 0, 1) := by decide +kernel
theorem dX8_enqueue_60 : decode cX8_enqueue 60 = .ok (.getfield 59, 3) := by decide +kernel
theorem dX8_enqueue_63 : decode cX8_enqueue 63 = .ok (.iload_n 1, 1) := by decide +kernel
theorem dX8_enqueue_64 : decode cX8_enqueue 64 = .ok (.iload_n 2, 1) := by decide +kernel
theorem dX8_enqueue_65 : decode cX8_enqueue 65 = .ok (.iload_n 3, 1) := by decide +kernel
theorem dX8_enqueue_66 : decode cX8_enqueue 66 = .ok (.invokevirtual 72, 3) := by decide +kernel
theorem dX8_enqueue_69 : decode cX8_enqueue 69 = .ok (.aload_n 0, 1) := by decide +kernel
theorem dX8_enqueue_70 : decode cX8_enqueue 70 = .ok (.dup, 1) := by decide +kernel
theorem dX8_enqueue_71 : decode cX8_enqueue 71 = .ok (.getfield 50, 3) := by decide +kernel
theorem dX8_enqueue_74 : decode cX8_enqueue 74 = .ok (.iconst 1, 1) := by decide +kernel
theorem dX8_enqueue_75 : decode cX8_enqueue 75 = .ok (.iadd, 1) := by decide +kernel
theorem dX8_enqueue_76 : decode cX8_enqueue 76 = .ok (.putfield 50, 3) := by decide +kernel
theorem dX8_enqueue_79 : decode cX8_enqueue 79 = .ok (.aload_n 0, 1) := by decide +kernel
theorem dX8_enqueue_80 : decode cX8_enqueue 80 = .ok (.dup, 1) := by decide +kernel
theorem dX8_enqueue_81 : decode cX8_enqueue 81 = .ok (.getfield 59, 3) := by decide +kernel
theorem dX8_enqueue_84 : decode cX8_enqueue 84 = .ok (.iconst 1, 1) := by decide +kernel
theorem dX8_enqueue_85 : decode cX8_enqueue 85 = .ok (.iadd, 1) := by decide +kernel
theorem dX8_enqueue_86 : decode cX8_enqueue 86 = .ok (.putfield 59, 3) := by decide +kernel
theorem dX8_enqueue_89 : decode cX8_enqueue 89 = .ok (.return_, 1) := by decide +kernel
theorem dX8_cellFigure_0 : decode cX8_cellFigure 0 = .ok (.iload_n 2, 1) := by decide +kernel
theorem dX8_cellFigure_1 : decode cX8_cellFigure 1 = .ok (.tableswitch 52 0 2 #[27, 37, 43], 27) := by decide +kernel
theorem dX8_cellFigure_28 : decode cX8_cellFigure 28 = .ok (.aload_n 0, 1) := by decide +kernel
theorem dX8_cellFigure_29 : decode cX8_cellFigure 29 = .ok (.getfield 12, 3) := by decide +kernel
theorem dX8_cellFigure_32 : decode cX8_cellFigure 32 = .ok (.getfield 82, 3) := by decide +kernel
theorem dX8_cellFigure_35 : decode cX8_cellFigure 35 = .ok (.iload_n 1, 1) := by decide +kernel
theorem dX8_cellFigure_36 : decode cX8_cellFigure 36 = .ok (.iaload, 1) := by decide +kernel
theorem dX8_cellFigure_37 : decode cX8_cellFigure 37 = .ok (.ireturn, 1) := by decide +kernel
theorem dX8_cellFigure_38 : decode cX8_cellFigure 38 = .ok (.aload_n 0, 1) := by decide +kernel
theorem dX8_cellFigure_39 : decode cX8_cellFigure 39 = .ok (.iload_n 1, 1) := by decide +kernel
theorem dX8_cellFigure_40 : decode cX8_cellFigure 40 = .ok (.invokevirtual 85, 3) := by decide +kernel
theorem dX8_cellFigure_43 : decode cX8_cellFigure 43 = .ok (.ireturn, 1) := by decide +kernel
theorem dX8_cellFigure_44 : decode cX8_cellFigure 44 = .ok (.aload_n 0, 1) := by decide +kernel
theorem dX8_cellFigure_45 : decode cX8_cellFigure 45 = .ok (.getfield 12, 3) := by decide +kernel
theorem dX8_cellFigure_48 : decode cX8_cellFigure 48 = .ok (.iload_n 1, 1) := by decide +kernel
theorem dX8_cellFigure_49 : decode cX8_cellFigure 49 = .ok (.invokevirtual 89, 3) := by decide +kernel
theorem dX8_cellFigure_52 : decode cX8_cellFigure 52 = .ok (.ireturn, 1) := by decide +kernel
theorem dX8_cellFigure_53 : decode cX8_cellFigure 53 = .ok (.aload_n 0, 1) := by decide +kernel
theorem dX8_cellFigure_54 : decode cX8_cellFigure 54 = .ok (.getfield 12, 3) := by decide +kernel
theorem dX8_cellFigure_57 : decode cX8_cellFigure 57 = .ok (.iload_n 1, 1) := by decide +kernel
theorem dX8_cellFigure_58 : decode cX8_cellFigure 58 = .ok (.invokevirtual 92, 3) := by decide +kernel
theorem dX8_cellFigure_61 : decode cX8_cellFigure 61 = .ok (.ireturn, 1) := by decide +kernel
theorem dX8_ordersFor_0 : decode cX8_ordersFor 0 = .ok (.iconst 0, 1) := by decide +kernel
theorem dX8_ordersFor_1 : decode cX8_ordersFor 1 = .ok (.istore_n 2, 1) := by decide +kernel
theorem dX8_ordersFor_2 : decode cX8_ordersFor 2 = .ok (.iconst 0, 1) := by decide +kernel
theorem dX8_ordersFor_3 : decode cX8_ordersFor 3 = .ok (.istore_n 3, 1) := by decide +kernel
theorem dX8_ordersFor_4 : decode cX8_ordersFor 4 = .ok (.iload_n 3, 1) := by decide +kernel
theorem dX8_ordersFor_5 : decode cX8_ordersFor 5 = .ok (.aload_n 0, 1) := by decide +kernel
theorem dX8_ordersFor_6 : decode cX8_ordersFor 6 = .ok (.getfield 50, 3) := by decide +kernel
theorem dX8_ordersFor_9 : decode cX8_ordersFor 9 = .ok (.if_icmp .ge 25, 3) := by decide +kernel
theorem dX8_ordersFor_12 : decode cX8_ordersFor 12 = .ok (.aload_n 0, 1) := by decide +kernel
theorem dX8_ordersFor_13 : decode cX8_ordersFor 13 = .ok (.getfield 30, 3) := by decide +kernel
theorem dX8_ordersFor_16 : decode cX8_ordersFor 16 = .ok (.iload_n 3, 1) := by decide +kernel
theorem dX8_ordersFor_17 : decode cX8_ordersFor 17 = .ok (.aaload, 1) := by decide +kernel
theorem dX8_ordersFor_18 : decode cX8_ordersFor 18 = .ok (.getfield 122, 3) := by decide +kernel
theorem dX8_ordersFor_21 : decode cX8_ordersFor 21 = .ok (.iload_n 1, 1) := by decide +kernel
theorem dX8_ordersFor_22 : decode cX8_ordersFor 22 = .ok (.if_icmp .ne 6, 3) := by decide +kernel
theorem dX8_ordersFor_25 : decode cX8_ordersFor 25 = .ok (.iinc 2 1, 3) := by decide +kernel
theorem dX8_ordersFor_28 : decode cX8_ordersFor 28 = .ok (.iinc 3 1, 3) := by decide +kernel
theorem dX8_ordersFor_31 : decode cX8_ordersFor 31 = .ok (.goto (-27), 3) := by decide +kernel
theorem dX8_ordersFor_34 : decode cX8_ordersFor 34 = .ok (.iload_n 2, 1) := by decide +kernel
theorem dX8_ordersFor_35 : decode cX8_ordersFor 35 = .ok (.ireturn, 1) := by decide +kernel
theorem dX8_troopFigure_0 : decode cX8_troopFigure 0 = .ok (.aload_n 0, 1) := by decide +kernel
theorem dX8_troopFigure_1 : decode cX8_troopFigure 1 = .ok (.getfield 24, 3) := by decide +kernel
theorem dX8_troopFigure_4 : decode cX8_troopFigure 4 = .ok (.iload_n 1, 1) := by decide +kernel
theorem dX8_troopFigure_5 : decode cX8_troopFigure 5 = .ok (.aaload, 1) := by decide +kernel
theorem dX8_troopFigure_6 : decode cX8_troopFigure 6 = .ok (.astore_n 3, 1) := by decide +kernel
theorem dX8_troopFigure_7 : decode cX8_troopFigure 7 = .ok (.iload_n 2, 1) := by decide +kernel
theorem dX8_troopFigure_8 : decode cX8_troopFigure 8 = .ok (.tableswitch 89 0 7 #[48, 53, 58, 63, 68, 73, 78, 83], 48) := by decide +kernel
theorem dX8_troopFigure_56 : decode cX8_troopFigure 56 = .ok (.aload_n 3, 1) := by decide +kernel
theorem dX8_troopFigure_57 : decode cX8_troopFigure 57 = .ok (.getfield 95, 3) := by decide +kernel
theorem dX8_troopFigure_60 : decode cX8_troopFigure 60 = .ok (.ireturn, 1) := by decide +kernel
theorem dX8_troopFigure_61 : decode cX8_troopFigure 61 = .ok (.aload_n 3, 1) := by decide +kernel
theorem dX8_troopFigure_62 : decode cX8_troopFigure 62 = .ok (.getfield 79, 3) := by decide +kernel
theorem dX8_troopFigure_65 : decode cX8_troopFigure 65 = .ok (.ireturn, 1) := by decide +kernel
theorem dX8_troopFigure_66 : decode cX8_troopFigure 66 = .ok (.aload_n 3, 1) := by decide +kernel
theorem dX8_troopFigure_67 : decode cX8_troopFigure 67 = .ok (.getfield 98, 3) := by decide +kernel
theorem dX8_troopFigure_70 : decode cX8_troopFigure 70 = .ok (.ireturn, 1) := by decide +kernel
theorem dX8_troopFigure_71 : decode cX8_troopFigure 71 = .ok (.aload_n 3, 1) := by decide +kernel
theorem dX8_troopFigure_72 : decode cX8_troopFigure 72 = .ok (.getfield 101, 3) := by decide +kernel
theorem dX8_troopFigure_75 : decode cX8_troopFigure 75 = .ok (.ireturn, 1) := by decide +kernel
theorem dX8_troopFigure_76 : decode cX8_troopFigure 76 = .ok (.aload_n 3, 1) := by decide +kernel
theorem dX8_troopFigure_77 : decode cX8_troopFigure 77 = .ok (.getfield 76, 3) := by decide +kernel
theorem dX8_troopFigure_80 : decode cX8_troopFigure 80 = .ok (.ireturn, 1) := by decide +kernel
theorem dX8_troopFigure_81 : decode cX8_troopFigure 81 = .ok (.aload_n 3, 1) := by decide +kernel
theorem dX8_troopFigure_82 : decode cX8_troopFigure 82 = .ok (.getfield 104, 3) := by decide +kernel
theorem dX8_troopFigure_85 : decode cX8_troopFigure 85 = .ok (.ireturn, 1) := by decide +kernel
theorem dX8_troopFigure_86 : decode cX8_troopFigure 86 = .ok (.aload_n 3, 1) := by decide +kernel
theorem dX8_troopFigure_87 : decode cX8_troopFigure 87 = .ok (.getfield 107, 3) := by decide +kernel
theorem dX8_troopFigure_90 : decode cX8_troopFigure 90 = .ok (.ireturn, 1) := by decide +kernel
theorem dX8_troopFigure_91 : decode cX8_troopFigure 91 = .ok (.aload_n 0, 1) := by decide +kernel
theorem dX8_troopFigure_92 : decode cX8_troopFigure 92 = .ok (.iload_n 1, 1) := by decide +kernel
theorem dX8_troopFigure_93 : decode cX8_troopFigure 93 = .ok (.invokevirtual 110, 3) := by decide +kernel
theorem dX8_troopFigure_96 : decode cX8_troopFigure 96 = .ok (.ireturn, 1) := by decide +kernel
theorem dX8_troopFigure_97 : decode cX8_troopFigure 97 = .ok (.aload_n 3, 1) := by decide +kernel
theorem dX8_troopFigure_98 : decode cX8_troopFigure 98 = .ok (.getfield 113, 3) := by decide +kernel
theorem dX8_troopFigure_101 : decode cX8_troopFigure 101 = .ok (.ireturn, 1) := by decide +kernel
theorem dX8_troopsThatAre_0 : decode cX8_troopsThatAre 0 = .ok (.iconst 0, 1) := by decide +kernel
theorem dX8_troopsThatAre_1 : decode cX8_troopsThatAre 1 = .ok (.istore_n 2, 1) := by decide +kernel
theorem dX8_troopsThatAre_2 : decode cX8_troopsThatAre 2 = .ok (.iconst 0, 1) := by decide +kernel
theorem dX8_troopsThatAre_3 : decode cX8_troopsThatAre 3 = .ok (.istore_n 3, 1) := by decide +kernel
theorem dX8_troopsThatAre_4 : decode cX8_troopsThatAre 4 = .ok (.iload_n 3, 1) := by decide +kernel
theorem dX8_troopsThatAre_5 : decode cX8_troopsThatAre 5 = .ok (.aload_n 0, 1) := by decide +kernel
theorem dX8_troopsThatAre_6 : decode cX8_troopsThatAre 6 = .ok (.getfield 43, 3) := by decide +kernel
theorem dX8_troopsThatAre_9 : decode cX8_troopsThatAre 9 = .ok (.if_icmp .ge 25, 3) := by decide +kernel
theorem dX8_troopsThatAre_12 : decode cX8_troopsThatAre 12 = .ok (.aload_n 0, 1) := by decide +kernel
theorem dX8_troopsThatAre_13 : decode cX8_troopsThatAre 13 = .ok (.getfield 24, 3) := by decide +kernel
theorem dX8_troopsThatAre_16 : decode cX8_troopsThatAre 16 = .ok (.iload_n 3, 1) := by decide +kernel
theorem dX8_troopsThatAre_17 : decode cX8_troopsThatAre 17 = .ok (.aaload, 1) := by decide +kernel
theorem dX8_troopsThatAre_18 : decode cX8_troopsThatAre 18 = .ok (.getfield 76, 3) := by decide +kernel
theorem dX8_troopsThatAre_21 : decode cX8_troopsThatAre 21 = .ok (.iload_n 1, 1) := by decide +kernel
theorem dX8_troopsThatAre_22 : decode cX8_troopsThatAre 22 = .ok (.if_icmp .ne 6, 3) := by decide +kernel
theorem dX8_troopsThatAre_25 : decode cX8_troopsThatAre 25 = .ok (.iinc 2 1, 3) := by decide +kernel
theorem dX8_troopsThatAre_28 : decode cX8_troopsThatAre 28 = .ok (.iinc 3 1, 3) := by decide +kernel
theorem dX8_troopsThatAre_31 : decode cX8_troopsThatAre 31 = .ok (.goto (-27), 3) := by decide +kernel
theorem dX8_troopsThatAre_34 : decode cX8_troopsThatAre 34 = .ok (.iload_n 2, 1) := by decide +kernel
theorem dX8_troopsThatAre_35 : decode cX8_troopsThatAre 35 = .ok (.ireturn, 1) := by decide +kernel
theorem dX8_strengthOf_0 : decode cX8_strengthOf 0 = .ok (.iconst 0, 1) := by decide +kernel
theorem dX8_strengthOf_1 : decode cX8_strengthOf 1 = .ok (.istore_n 2, 1) := by decide +kernel
theorem dX8_strengthOf_2 : decode cX8_strengthOf 2 = .ok (.iconst 0, 1) := by decide +kernel
theorem dX8_strengthOf_3 : decode cX8_strengthOf 3 = .ok (.istore_n 3, 1) := by decide +kernel
theorem dX8_strengthOf_4 : decode cX8_strengthOf 4 = .ok (.iload_n 3, 1) := by decide +kernel
theorem dX8_strengthOf_5 : decode cX8_strengthOf 5 = .ok (.aload_n 0, 1) := by decide +kernel
theorem dX8_strengthOf_6 : decode cX8_strengthOf 6 = .ok (.getfield 43, 3) := by decide +kernel
theorem dX8_strengthOf_9 : decode cX8_strengthOf 9 = .ok (.if_icmp .ge 34, 3) := by decide +kernel
theorem dX8_strengthOf_12 : decode cX8_strengthOf 12 = .ok (.aload_n 0, 1) := by decide +kernel
theorem dX8_strengthOf_13 : decode cX8_strengthOf 13 = .ok (.getfield 24, 3) := by decide +kernel
theorem dX8_strengthOf_16 : decode cX8_strengthOf 16 = .ok (.iload_n 3, 1) := by decide +kernel
theorem dX8_strengthOf_17 : decode cX8_strengthOf 17 = .ok (.aaload, 1) := by decide +kernel
theorem dX8_strengthOf_18 : decode cX8_strengthOf 18 = .ok (.getfield 95, 3) := by decide +kernel
theorem dX8_strengthOf_21 : decode cX8_strengthOf 21 = .ok (.iload_n 1, 1) := by decide +kernel
theorem dX8_strengthOf_22 : decode cX8_strengthOf 22 = .ok (.if_icmp .ne 15, 3) := by decide +kernel
theorem dX8_strengthOf_25 : decode cX8_strengthOf 25 = .ok (.iload_n 2, 1) := by decide +kernel
theorem dX8_strengthOf_26 : decode cX8_strengthOf 26 = .ok (.aload_n 0, 1) := by decide +kernel
theorem dX8_strengthOf_27 : decode cX8_strengthOf 27 = .ok (.getfield 24, 3) := by decide +kernel
theorem dX8_strengthOf_30 : decode cX8_strengthOf 30 = .ok (.iload_n 3, 1) := by decide +kernel
theorem dX8_strengthOf_31 : decode cX8_strengthOf 31 = .ok (.aaload, 1) := by decide +kernel
theorem dX8_strengthOf_32 : decode cX8_strengthOf 32 = .ok (.getfield 98, 3) := by decide +kernel
theorem dX8_strengthOf_35 : decode cX8_strengthOf 35 = .ok (.iadd, 1) := by decide +kernel
theorem dX8_strengthOf_36 : decode cX8_strengthOf 36 = .ok (.istore_n 2, 1) := by decide +kernel
theorem dX8_strengthOf_37 : decode cX8_strengthOf 37 = .ok (.iinc 3 1, 3) := by decide +kernel
theorem dX8_strengthOf_40 : decode cX8_strengthOf 40 = .ok (.goto (-36), 3) := by decide +kernel
theorem dX8_strengthOf_43 : decode cX8_strengthOf 43 = .ok (.iload_n 2, 1) := by decide +kernel
theorem dX8_strengthOf_44 : decode cX8_strengthOf 44 = .ok (.ireturn, 1) := by decide +kernel
theorem dX8_figure_0 : decode cX8_figure 0 = .ok (.iload_n 1, 1) := by decide +kernel
theorem dX8_figure_1 : decode cX8_figure 1 = .ok (.tableswitch 138 0 11 #[63, 68, 73, 84, 90, 95, 100, 105, 112, 119, 125, 131], 63) := by decide +kernel
theorem dX8_figure_64 : decode cX8_figure 64 = .ok (.aload_n 0, 1) := by decide +kernel
theorem dX8_figure_65 : decode cX8_figure 65 = .ok (.getfield 56, 3) := by decide +kernel
theorem dX8_figure_68 : decode cX8_figure 68 = .ok (.ireturn, 1) := by decide +kernel
theorem dX8_figure_69 : decode cX8_figure 69 = .ok (.aload_n 0, 1) := by decide +kernel
theorem dX8_figure_70 : decode cX8_figure 70 = .ok (.getfield 43, 3) := by decide +kernel
theorem dX8_figure_73 : decode cX8_figure 73 = .ok (.ireturn, 1) := by decide +kernel
theorem dX8_figure_74 : decode cX8_figure 74 = .ok (.aload_n 0, 1) := by decide +kernel
theorem dX8_figure_75 : decode cX8_figure 75 = .ok (.getfield 43, 3) := by decide +kernel
theorem dX8_figure_78 : decode cX8_figure 78 = .ok (.aload_n 0, 1) := by decide +kernel
theorem dX8_figure_79 : decode cX8_figure 79 = .ok (.iconst 2, 1) := by decide +kernel
theorem dX8_figure_80 : decode cX8_figure 80 = .ok (.invokevirtual 116, 3) := by decide +kernel
theorem dX8_figure_83 : decode cX8_figure 83 = .ok (.isub, 1) := by decide +kernel
theorem dX8_figure_84 : decode cX8_figure 84 = .ok (.ireturn, 1) := by decide +kernel
theorem dX8_figure_85 : decode cX8_figure 85 = .ok (.aload_n 0, 1) := by decide +kernel
theorem dX8_figure_86 : decode cX8_figure 86 = .ok (.iconst 1, 1) := by decide +kernel
theorem dX8_figure_87 : decode cX8_figure 87 = .ok (.invokevirtual 116, 3) := by decide +kernel
theorem dX8_figure_90 : decode cX8_figure 90 = .ok (.ireturn, 1) := by decide +kernel
theorem dX8_figure_91 : decode cX8_figure 91 = .ok (.aload_n 0, 1) := by decide +kernel
theorem dX8_figure_92 : decode cX8_figure 92 = .ok (.getfield 59, 3) := by decide +kernel
theorem dX8_figure_95 : decode cX8_figure 95 = .ok (.ireturn, 1) := by decide +kernel
theorem dX8_figure_96 : decode cX8_figure 96 = .ok (.aload_n 0, 1) := by decide +kernel
theorem dX8_figure_97 : decode cX8_figure 97 = .ok (.getfield 50, 3) := by decide +kernel
theorem dX8_figure_100 : decode cX8_figure 100 = .ok (.ireturn, 1) := by decide +kernel
theorem dX8_figure_101 : decode cX8_figure 101 = .ok (.aload_n 0, 1) := by decide +kernel
theorem dX8_figure_102 : decode cX8_figure 102 = .ok (.getfield 62, 3) := by decide +kernel
theorem dX8_figure_105 : decode cX8_figure 105 = .ok (.ireturn, 1) := by decide +kernel
theorem dX8_figure_106 : decode cX8_figure 106 = .ok (.aload_n 0, 1) := by decide +kernel
theorem dX8_figure_107 : decode cX8_figure 107 = .ok (.getfield 34, 3) := by decide +kernel
theorem dX8_figure_110 : decode cX8_figure 110 = .ok (.iconst 0, 1) := by decide +kernel
theorem dX8_figure_111 : decode cX8_figure 111 = .ok (.iaload, 1) := by decide +kernel
theorem dX8_figure_112 : decode cX8_figure 112 = .ok (.ireturn, 1) := by decide +kernel
theorem dX8_figure_113 : decode cX8_figure 113 = .ok (.aload_n 0, 1) := by decide +kernel
theorem dX8_figure_114 : decode cX8_figure 114 = .ok (.getfield 34, 3) := by decide +kernel
theorem dX8_figure_117 : decode cX8_figure 117 = .ok (.iconst 1, 1) := by decide +kernel
theorem dX8_figure_118 : decode cX8_figure 118 = .ok (.iaload, 1) := by decide +kernel
theorem dX8_figure_119 : decode cX8_figure 119 = .ok (.ireturn, 1) := by decide +kernel
theorem dX8_figure_120 : decode cX8_figure 120 = .ok (.aload_n 0, 1) := by decide +kernel
theorem dX8_figure_121 : decode cX8_figure 121 = .ok (.iconst 0, 1) := by decide +kernel
theorem dX8_figure_122 : decode cX8_figure 122 = .ok (.invokevirtual 119, 3) := by decide +kernel
theorem dX8_figure_125 : decode cX8_figure 125 = .ok (.ireturn, 1) := by decide +kernel
theorem dX8_figure_126 : decode cX8_figure 126 = .ok (.aload_n 0, 1) := by decide +kernel
theorem dX8_figure_127 : decode cX8_figure 127 = .ok (.iconst 1, 1) := by decide +kernel
theorem dX8_figure_128 : decode cX8_figure 128 = .ok (.invokevirtual 119, 3) := by decide +kernel
theorem dX8_figure_131 : decode cX8_figure 131 = .ok (.ireturn, 1) := by decide +kernel
theorem dX8_figure_132 : decode cX8_figure 132 = .ok (.aload_n 0, 1) := by decide +kernel
theorem dX8_figure_133 : decode cX8_figure 133 = .ok (.getfield 18, 3) := by decide +kernel
theorem dX8_figure_136 : decode cX8_figure 136 = .ok (.iconst 0, 1) := by decide +kernel
theorem dX8_figure_137 : decode cX8_figure 137 = .ok (.iaload, 1) := by decide +kernel
theorem dX8_figure_138 : decode cX8_figure 138 = .ok (.ireturn, 1) := by decide +kernel
theorem dX8_figure_139 : decode cX8_figure 139 = .ok (.aload_n 0, 1) := by decide +kernel
theorem dX8_figure_140 : decode cX8_figure 140 = .ok (.getfield 18, 3) := by decide +kernel
theorem dX8_figure_143 : decode cX8_figure 143 = .ok (.iconst 1, 1) := by decide +kernel
theorem dX8_figure_144 : decode cX8_figure 144 = .ok (.iaload, 1) := by decide +kernel
theorem dX8_figure_145 : decode cX8_figure 145 = .ok (.ireturn, 1) := by decide +kernel
theorem dX8_lostByBoth_0 : decode cX8_lostByBoth 0 = .ok (.aload_n 0, 1) := by decide +kernel
theorem dX8_lostByBoth_1 : decode cX8_lostByBoth 1 = .ok (.getfield 34, 3) := by decide +kernel
theorem dX8_lostByBoth_4 : decode cX8_lostByBoth 4 = .ok (.iconst 0, 1) := by decide +kernel
theorem dX8_lostByBoth_5 : decode cX8_lostByBoth 5 = .ok (.iaload, 1) := by decide +kernel
theorem dX8_lostByBoth_6 : decode cX8_lostByBoth 6 = .ok (.aload_n 0, 1) := by decide +kernel
theorem dX8_lostByBoth_7 : decode cX8_lostByBoth 7 = .ok (.getfield 34, 3) := by decide +kernel
theorem dX8_lostByBoth_10 : decode cX8_lostByBoth 10 = .ok (.iconst 1, 1) := by decide +kernel
theorem dX8_lostByBoth_11 : decode cX8_lostByBoth 11 = .ok (.iaload, 1) := by decide +kernel
theorem dX8_lostByBoth_12 : decode cX8_lostByBoth 12 = .ok (.iadd, 1) := by decide +kernel
theorem dX8_lostByBoth_13 : decode cX8_lostByBoth 13 = .ok (.ireturn, 1) := by decide +kernel
theorem dX8_shareLeft_0 : decode cX8_shareLeft 0 = .ok (.iconst 0, 1) := by decide +kernel
theorem dX8_shareLeft_1 : decode cX8_shareLeft 1 = .ok (.istore_n 1, 1) := by decide +kernel
theorem dX8_shareLeft_2 : decode cX8_shareLeft 2 = .ok (.iconst 0, 1) := by decide +kernel
theorem dX8_shareLeft_3 : decode cX8_shareLeft 3 = .ok (.istore_n 2, 1) := by decide +kernel
theorem dX8_shareLeft_4 : decode cX8_shareLeft 4 = .ok (.iload_n 2, 1) := by decide +kernel
theorem dX8_shareLeft_5 : decode cX8_shareLeft 5 = .ok (.aload_n 0, 1) := by decide +kernel
theorem dX8_shareLeft_6 : decode cX8_shareLeft 6 = .ok (.getfield 43, 3) := by decide +kernel
theorem dX8_shareLeft_9 : decode cX8_shareLeft 9 = .ok (.if_icmp .ge 21, 3) := by decide +kernel
theorem dX8_shareLeft_12 : decode cX8_shareLeft 12 = .ok (.iload_n 1, 1) := by decide +kernel
theorem dX8_shareLeft_13 : decode cX8_shareLeft 13 = .ok (.aload_n 0, 1) := by decide +kernel
theorem dX8_shareLeft_14 : decode cX8_shareLeft 14 = .ok (.getfield 24, 3) := by decide +kernel
theorem dX8_shareLeft_17 : decode cX8_shareLeft 17 = .ok (.iload_n 2, 1) := by decide +kernel
theorem dX8_shareLeft_18 : decode cX8_shareLeft 18 = .ok (.aaload, 1) := by decide +kernel
theorem dX8_shareLeft_19 : decode cX8_shareLeft 19 = .ok (.getfield 104, 3) := by decide +kernel
theorem dX8_shareLeft_22 : decode cX8_shareLeft 22 = .ok (.iadd, 1) := by decide +kernel
theorem dX8_shareLeft_23 : decode cX8_shareLeft 23 = .ok (.istore_n 1, 1) := by decide +kernel
theorem dX8_shareLeft_24 : decode cX8_shareLeft 24 = .ok (.iinc 2 1, 3) := by decide +kernel
theorem dX8_shareLeft_27 : decode cX8_shareLeft 27 = .ok (.goto (-23), 3) := by decide +kernel
theorem dX8_shareLeft_30 : decode cX8_shareLeft 30 = .ok (.iload_n 1, 1) := by decide +kernel
theorem dX8_shareLeft_31 : decode cX8_shareLeft 31 = .ok (.iconst 1, 1) := by decide +kernel
theorem dX8_shareLeft_32 : decode cX8_shareLeft 32 = .ok (.if_icmp .ge 7, 3) := by decide +kernel
theorem dX8_shareLeft_35 : decode cX8_shareLeft 35 = .ok (.dconst 1, 1) := by decide +kernel
theorem dX8_shareLeft_36 : decode cX8_shareLeft 36 = .ok (.goto 18, 3) := by decide +kernel
theorem dX8_shareLeft_39 : decode cX8_shareLeft 39 = .ok (.aload_n 0, 1) := by decide +kernel
theorem dX8_shareLeft_40 : decode cX8_shareLeft 40 = .ok (.iconst 0, 1) := by decide +kernel
theorem dX8_shareLeft_41 : decode cX8_shareLeft 41 = .ok (.invokevirtual 119, 3) := by decide +kernel
theorem dX8_shareLeft_44 : decode cX8_shareLeft 44 = .ok (.aload_n 0, 1) := by decide +kernel
theorem dX8_shareLeft_45 : decode cX8_shareLeft 45 = .ok (.iconst 1, 1) := by decide +kernel
theorem dX8_shareLeft_46 : decode cX8_shareLeft 46 = .ok (.invokevirtual 119, 3) := by decide +kernel
theorem dX8_shareLeft_49 : decode cX8_shareLeft 49 = .ok (.iadd, 1) := by decide +kernel
theorem dX8_shareLeft_50 : decode cX8_shareLeft 50 = .ok (.i2d, 1) := by decide +kernel
theorem dX8_shareLeft_51 : decode cX8_shareLeft 51 = .ok (.iload_n 1, 1) := by decide +kernel
theorem dX8_shareLeft_52 : decode cX8_shareLeft 52 = .ok (.i2d, 1) := by decide +kernel
theorem dX8_shareLeft_53 : decode cX8_shareLeft 53 = .ok (.ddiv, 1) := by decide +kernel
theorem dX8_shareLeft_54 : decode cX8_shareLeft 54 = .ok (.dreturn, 1) := by decide +kernel
theorem dX9_init_0 : decode cX9_init 0 = .ok (.aload_n 0, 1) := by decide +kernel
theorem dX9_init_1 : decode cX9_init 1 = .ok (.invokespecial 3, 3) := by decide +kernel
theorem dX9_init_4 : decode cX9_init 4 = .ok (.aload_n 0, 1) := by decide +kernel
theorem dX9_init_5 : decode cX9_init 5 = .ok (.new 9, 3) := by decide +kernel
theorem dX9_init_8 : decode cX9_init 8 = .ok (.dup, 1) := by decide +kernel
theorem dX9_init_9 : decode cX9_init 9 = .ok (.invokespecial 11, 3) := by decide +kernel
theorem dX9_init_12 : decode cX9_init 12 = .ok (.putfield 12, 3) := by decide +kernel
theorem dX9_init_15 : decode cX9_init 15 = .ok (.aload_n 0, 1) := by decide +kernel
theorem dX9_init_16 : decode cX9_init 16 = .ok (.new 9, 3) := by decide +kernel
theorem dX9_init_19 : decode cX9_init 19 = .ok (.dup, 1) := by decide +kernel
theorem dX9_init_20 : decode cX9_init 20 = .ok (.invokespecial 11, 3) := by decide +kernel
theorem dX9_init_23 : decode cX9_init 23 = .ok (.putfield 16, 3) := by decide +kernel
theorem dX9_init_26 : decode cX9_init 26 = .ok (.aload_n 0, 1) := by decide +kernel
theorem dX9_init_27 : decode cX9_init 27 = .ok (.new 19, 3) := by decide +kernel
theorem dX9_init_30 : decode cX9_init 30 = .ok (.dup, 1) := by decide +kernel
theorem dX9_init_31 : decode cX9_init 31 = .ok (.invokespecial 21, 3) := by decide +kernel
theorem dX9_init_34 : decode cX9_init 34 = .ok (.putfield 22, 3) := by decide +kernel
theorem dX9_init_37 : decode cX9_init 37 = .ok (.aload_n 0, 1) := by decide +kernel
theorem dX9_init_38 : decode cX9_init 38 = .ok (.new 26, 3) := by decide +kernel
theorem dX9_init_41 : decode cX9_init 41 = .ok (.dup, 1) := by decide +kernel
theorem dX9_init_42 : decode cX9_init 42 = .ok (.invokespecial 28, 3) := by decide +kernel
theorem dX9_init_45 : decode cX9_init 45 = .ok (.putfield 29, 3) := by decide +kernel
theorem dX9_init_48 : decode cX9_init 48 = .ok (.aload_n 0, 1) := by decide +kernel
theorem dX9_init_49 : decode cX9_init 49 = .ok (.new 33, 3) := by decide +kernel
theorem dX9_init_52 : decode cX9_init 52 = .ok (.dup, 1) := by decide +kernel
theorem dX9_init_53 : decode cX9_init 53 = .ok (.invokespecial 35, 3) := by decide +kernel
theorem dX9_init_56 : decode cX9_init 56 = .ok (.putfield 36, 3) := by decide +kernel
theorem dX9_init_59 : decode cX9_init 59 = .ok (.aload_n 0, 1) := by decide +kernel
theorem dX9_init_60 : decode cX9_init 60 = .ok (.new 40, 3) := by decide +kernel
theorem dX9_init_63 : decode cX9_init 63 = .ok (.dup, 1) := by decide +kernel
theorem dX9_init_64 : decode cX9_init 64 = .ok (.invokespecial 42, 3) := by decide +kernel
theorem dX9_init_67 : decode cX9_init 67 = .ok (.putfield 43, 3) := by decide +kernel
theorem dX9_init_70 : decode cX9_init 70 = .ok (.return_, 1) := by decide +kernel
theorem dX9_needCell_0 : decode cX9_needCell 0 = .ok (.iload_n 0, 1) := by decide +kernel
theorem dX9_needCell_1 : decode cX9_needCell 1 = .ok (.ifCond .lt 9, 3) := by decide +kernel
theorem dX9_needCell_4 : decode cX9_needCell 4 = .ok (.iload_n 0, 1) := by decide +kernel
theorem dX9_needCell_5 : decode cX9_needCell 5 = .ok (.bipush 96, 2) := by decide +kernel
theorem dX9_needCell_7 : decode cX9_needCell 7 = .ok (.if_icmp .lt 14, 3) := by decide +kernel
theorem dX9_needCell_10 : decode cX9_needCell 10 = .ok (.new 181, 3) := by decide +kernel
theorem dX9_needCell_13 : decode cX9_needCell 13 = .ok (.dup, 1) := by decide +kernel
theorem dX9_needCell_14 : decode cX9_needCell 14 = .ok (.ldc_w 265, 3) := by decide +kernel
theorem dX9_needCell_17 : decode cX9_needCell 17 = .ok (.invokespecial 185, 3) := by decide +kernel
theorem dX9_needCell_20 : decode cX9_needCell 20 = .ok (.athrow, 1) := by decide +kernel
theorem dX9_needCell_21 : decode cX9_needCell 21 = .ok (.return_, 1) := by decide +kernel
theorem dX9_shape_0 : decode cX9_shape 0 = .ok (.iload_n 1, 1) := by decide +kernel
theorem dX9_shape_1 : decode cX9_shape 1 = .ok (.invokestatic 47, 3) := by decide +kernel
theorem dX9_shape_4 : decode cX9_shape 4 = .ok (.iload_n 2, 1) := by decide +kernel
theorem dX9_shape_5 : decode cX9_shape 5 = .ok (.invokestatic 47, 3) := by decide +kernel
theorem dX9_shape_8 : decode cX9_shape 8 = .ok (.iload_n 1, 1) := by decide +kernel
theorem dX9_shape_9 : decode cX9_shape 9 = .ok (.bipush 12, 2) := by decide +kernel
theorem dX9_shape_11 : decode cX9_shape 11 = .ok (.irem, 1) := by decide +kernel
theorem dX9_shape_12 : decode cX9_shape 12 = .ok (.iload_n 2, 1) := by decide +kernel
theorem dX9_shape_13 : decode cX9_shape 13 = .ok (.bipush 12, 2) := by decide +kernel
theorem dX9_shape_15 : decode cX9_shape 15 = .ok (.irem, 1) := by decide +kernel
theorem dX9_shape_16 : decode cX9_shape 16 = .ok (.if_icmp .gt 14, 3) := by decide +kernel
theorem dX9_shape_19 : decode cX9_shape 19 = .ok (.iload_n 1, 1) := by decide +kernel
theorem dX9_shape_20 : decode cX9_shape 20 = .ok (.bipush 12, 2) := by decide +kernel
theorem dX9_shape_22 : decode cX9_shape 22 = .ok (.idiv, 1) := by decide +kernel
theorem dX9_shape_23 : decode cX9_shape 23 = .ok (.iload_n 2, 1) := by decide +kernel
theorem dX9_shape_24 : decode cX9_shape 24 = .ok (.bipush 12, 2) := by decide +kernel
theorem dX9_shape_26 : decode cX9_shape 26 = .ok (.idiv, 1) := by decide +kernel
theorem dX9_shape_27 : decode cX9_shape 27 = .ok (.if_icmp .le 13, 3) := by decide +kernel
theorem dX9_shape_30 : decode cX9_shape 30 = .ok (.new 51, 3) := by decide +kernel
theorem dX9_shape_33 : decode cX9_shape 33 = .ok (.dup, 1) := by decide +kernel
theorem dX9_shape_34 : decode cX9_shape 34 = .ok (.ldc 53, 2) := by decide +kernel
theorem dX9_shape_36 : decode cX9_shape 36 = .ok (.invokespecial 55, 3) := by decide +kernel
theorem dX9_shape_39 : decode cX9_shape 39 = .ok (.athrow, 1) := by decide +kernel
theorem dX9_shape_40 : decode cX9_shape 40 = .ok (.iload_n 3, 1) := by decide +kernel
theorem dX9_shape_41 : decode cX9_shape 41 = .ok (.ifCond .lt 9, 3) := by decide +kernel
theorem dX9_shape_44 : decode cX9_shape 44 = .ok (.iload_n 3, 1) := by decide +kernel
theorem dX9_shape_45 : decode cX9_shape 45 = .ok (.bipush 9, 2) := by decide +kernel
theorem dX9_shape_47 : decode cX9_shape 47 = .ok (.if_icmp .le 13, 3) := by decide +kernel
theorem dX9_shape_50 : decode cX9_shape 50 = .ok (.new 51, 3) := by decide +kernel
theorem dX9_shape_53 : decode cX9_shape 53 = .ok (.dup, 1) := by decide +kernel
theorem dX9_shape_54 : decode cX9_shape 54 = .ok (.ldc 58, 2) := by decide +kernel
theorem dX9_shape_56 : decode cX9_shape 56 = .ok (.invokespecial 55, 3) := by decide +kernel
theorem dX9_shape_59 : decode cX9_shape 59 = .ok (.athrow, 1) := by decide +kernel
theorem dX9_shape_60 : decode cX9_shape 60 = .ok (.aload_n 0, 1) := by decide +kernel
theorem dX9_shape_61 : decode cX9_shape 61 = .ok (.getfield 22, 3) := by decide +kernel
theorem dX9_shape_64 : decode cX9_shape 64 = .ok (.aload_n 0, 1) := by decide +kernel
theorem dX9_shape_65 : decode cX9_shape 65 = .ok (.getfield 12, 3) := by decide +kernel
theorem dX9_shape_68 : decode cX9_shape 68 = .ok (.invokevirtual 60, 3) := by decide +kernel
theorem dX9_shape_71 : decode cX9_shape 71 = .ok (.aload_n 0, 1) := by decide +kernel
theorem dX9_shape_72 : decode cX9_shape 72 = .ok (.getfield 12, 3) := by decide +kernel
theorem dX9_shape_75 : decode cX9_shape 75 = .ok (.getfield 64, 3) := by decide +kernel
theorem dX9_shape_78 : decode cX9_shape 78 = .ok (.iload_n 1, 1) := by decide +kernel
theorem dX9_shape_79 : decode cX9_shape 79 = .ok (.iload_n 2, 1) := by decide +kernel
theorem dX9_shape_80 : decode cX9_shape 80 = .ok (.iload_n 3, 1) := by decide +kernel
theorem dX9_shape_81 : decode cX9_shape 81 = .ok (.invokevirtual 68, 3) := by decide +kernel
theorem dX9_shape_84 : decode cX9_shape 84 = .ok (.ireturn, 1) := by decide +kernel
theorem dX9_needSide_0 : decode cX9_needSide 0 = .ok (.iload_n 0, 1) := by decide +kernel
theorem dX9_needSide_1 : decode cX9_needSide 1 = .ok (.ifCond .lt 8, 3) := by decide +kernel
theorem dX9_needSide_4 : decode cX9_needSide 4 = .ok (.iload_n 0, 1) := by decide +kernel
theorem dX9_needSide_5 : decode cX9_needSide 5 = .ok (.iconst 2, 1) := by decide +kernel
theorem dX9_needSide_6 : decode cX9_needSide 6 = .ok (.if_icmp .lt 14, 3) := by decide +kernel
theorem dX9_needSide_9 : decode cX9_needSide 9 = .ok (.new 181, 3) := by decide +kernel
theorem dX9_needSide_12 : decode cX9_needSide 12 = .ok (.dup, 1) := by decide +kernel
theorem dX9_needSide_13 : decode cX9_needSide 13 = .ok (.ldc_w 267, 3) := by decide +kernel
theorem dX9_needSide_16 : decode cX9_needSide 16 = .ok (.invokespecial 185, 3) := by decide +kernel
theorem dX9_needSide_19 : decode cX9_needSide 19 = .ok (.athrow, 1) := by decide +kernel
theorem dX9_needSide_20 : decode cX9_needSide 20 = .ok (.return_, 1) := by decide +kernel
theorem dX9_moveGeneral_0 : decode cX9_moveGeneral 0 = .ok (.iload_n 1, 1) := by decide +kernel
theorem dX9_moveGeneral_1 : decode cX9_moveGeneral 1 = .ok (.invokestatic 74, 3) := by decide +kernel
theorem dX9_moveGeneral_4 : decode cX9_moveGeneral 4 = .ok (.iload_n 2, 1) := by decide +kernel
theorem dX9_moveGeneral_5 : decode cX9_moveGeneral 5 = .ok (.invokestatic 47, 3) := by decide +kernel
theorem dX9_moveGeneral_8 : decode cX9_moveGeneral 8 = .ok (.aload_n 0, 1) := by decide +kernel
theorem dX9_moveGeneral_9 : decode cX9_moveGeneral 9 = .ok (.getfield 22, 3) := by decide +kernel
theorem dX9_moveGeneral_12 : decode cX9_moveGeneral 12 = .ok (.aload_n 0, 1) := by decide +kernel
theorem dX9_moveGeneral_13 : decode cX9_moveGeneral 13 = .ok (.getfield 12, 3) := by decide +kernel
theorem dX9_moveGeneral_16 : decode cX9_moveGeneral 16 = .ok (.invokevirtual 60, 3) := by decide +kernel
theorem dX9_moveGeneral_19 : decode cX9_moveGeneral 19 = .ok (.aload_n 0, 1) := by decide +kernel
theorem dX9_moveGeneral_20 : decode cX9_moveGeneral 20 = .ok (.getfield 12, 3) := by decide +kernel
theorem dX9_moveGeneral_23 : decode cX9_moveGeneral 23 = .ok (.getfield 77, 3) := by decide +kernel
theorem dX9_moveGeneral_26 : decode cX9_moveGeneral 26 = .ok (.iload_n 1, 1) := by decide +kernel
theorem dX9_moveGeneral_27 : decode cX9_moveGeneral 27 = .ok (.iaload, 1) := by decide +kernel
theorem dX9_moveGeneral_28 : decode cX9_moveGeneral 28 = .ok (.istore_n 3, 1) := by decide +kernel
theorem dX9_moveGeneral_29 : decode cX9_moveGeneral 29 = .ok (.aload_n 0, 1) := by decide +kernel
theorem dX9_moveGeneral_30 : decode cX9_moveGeneral 30 = .ok (.getfield 12, 3) := by decide +kernel
theorem dX9_moveGeneral_33 : decode cX9_moveGeneral 33 = .ok (.getfield 77, 3) := by decide +kernel
theorem dX9_moveGeneral_36 : decode cX9_moveGeneral 36 = .ok (.iload_n 1, 1) := by decide +kernel
theorem dX9_moveGeneral_37 : decode cX9_moveGeneral 37 = .ok (.iload_n 2, 1) := by decide +kernel
theorem dX9_moveGeneral_38 : decode cX9_moveGeneral 38 = .ok (.iastore, 1) := by decide +kernel
theorem dX9_moveGeneral_39 : decode cX9_moveGeneral 39 = .ok (.iload_n 3, 1) := by decide +kernel
theorem dX9_moveGeneral_40 : decode cX9_moveGeneral 40 = .ok (.ireturn, 1) := by decide +kernel
theorem dX9_addTroop_0 : decode cX9_addTroop 0 = .ok (.iload_n 1, 1) := by decide +kernel
theorem dX9_addTroop_1 : decode cX9_addTroop 1 = .ok (.invokestatic 74, 3) := by decide +kernel
theorem dX9_addTroop_4 : decode cX9_addTroop 4 = .ok (.iload_n 2, 1) := by decide +kernel
theorem dX9_addTroop_5 : decode cX9_addTroop 5 = .ok (.invokestatic 47, 3) := by decide +kernel
theorem dX9_addTroop_8 : decode cX9_addTroop 8 = .ok (.iload_n 3, 1) := by decide +kernel
theorem dX9_addTroop_9 : decode cX9_addTroop 9 = .ok (.iconst 1, 1) := by decide +kernel
theorem dX9_addTroop_10 : decode cX9_addTroop 10 = .ok (.if_icmp .lt 9, 3) := by decide +kernel
theorem dX9_addTroop_13 : decode cX9_addTroop 13 = .ok (.iload_n 3, 1) := by decide +kernel
theorem dX9_addTroop_14 : decode cX9_addTroop 14 = .ok (.bipush 20, 2) := by decide +kernel
theorem dX9_addTroop_16 : decode cX9_addTroop 16 = .ok (.if_icmp .le 13, 3) := by decide +kernel
theorem dX9_addTroop_19 : decode cX9_addTroop 19 = .ok (.new 51, 3) := by decide +kernel
theorem dX9_addTroop_22 : decode cX9_addTroop 22 = .ok (.dup, 1) := by decide +kernel
theorem dX9_addTroop_23 : decode cX9_addTroop 23 = .ok (.ldc 81, 2) := by decide +kernel
theorem dX9_addTroop_25 : decode cX9_addTroop 25 = .ok (.invokespecial 55, 3) := by decide +kernel
theorem dX9_addTroop_28 : decode cX9_addTroop 28 = .ok (.athrow, 1) := by decide +kernel
theorem dX9_addTroop_29 : decode cX9_addTroop 29 = .ok (.aload_n 0, 1) := by decide +kernel
theorem dX9_addTroop_30 : decode cX9_addTroop 30 = .ok (.getfield 12, 3) := by decide +kernel
theorem dX9_addTroop_33 : decode cX9_addTroop 33 = .ok (.getfield 83, 3) := by decide +kernel
theorem dX9_addTroop_36 : decode cX9_addTroop 36 = .ok (.bipush 12, 2) := by decide +kernel
theorem dX9_addTroop_38 : decode cX9_addTroop 38 = .ok (.if_icmp .ge 15, 3) := by decide +kernel
theorem dX9_addTroop_41 : decode cX9_addTroop 41 = .ok (.aload_n 0, 1) := by decide +kernel
theorem dX9_addTroop_42 : decode cX9_addTroop 42 = .ok (.getfield 12, 3) := by decide +kernel
theorem dX9_addTroop_45 : decode cX9_addTroop 45 = .ok (.iload_n 2, 1) := by decide +kernel
theorem dX9_addTroop_46 : decode cX9_addTroop 46 = .ok (.invokevirtual 87, 3) := by decide +kernel
theorem dX9_addTroop_49 : decode cX9_addTroop 49 = .ok (.iconst (-1), 1) := by decide +kernel
theorem dX9_addTroop_50 : decode cX9_addTroop 50 = .ok (.if_icmp .eq 13, 3) := by decide +kernel
theorem dX9_addTroop_53 : decode cX9_addTroop 53 = .ok (.new 91, 3) := by decide +kernel
theorem dX9_addTroop_56 : decode cX9_addTroop 56 = .ok (.dup, 1) := by decide +kernel
theorem dX9_addTroop_57 : decode cX9_addTroop 57 = .ok (.ldc 93, 2) := by decide +kernel
theorem dX9_addTroop_59 : decode cX9_addTroop 59 = .ok (.invokespecial 95, 3) := by decide +kernel
theorem dX9_addTroop_62 : decode cX9_addTroop 62 = .ok (.athrow, 1) := by decide +kernel
theorem dX9_addTroop_63 : decode cX9_addTroop 63 = .ok (.aload_n 0, 1) := by decide +kernel
theorem dX9_addTroop_64 : decode cX9_addTroop 64 = .ok (.getfield 22, 3) := by decide +kernel
theorem dX9_addTroop_67 : decode cX9_addTroop 67 = .ok (.aload_n 0, 1) := by decide +kernel
theorem dX9_addTroop_68 : decode cX9_addTroop 68 = .ok (.getfield 12, 3) := by decide +kernel
theorem dX9_addTroop_71 : decode cX9_addTroop 71 = .ok (.invokevirtual 60, 3) := by decide +kernel
theorem dX9_addTroop_74 : decode cX9_addTroop 74 = .ok (.aload_n 0, 1) := by decide +kernel
theorem dX9_addTroop_75 : decode cX9_addTroop 75 = .ok (.getfield 12, 3) := by decide +kernel
theorem dX9_addTroop_78 : decode cX9_addTroop 78 = .ok (.iload_n 1, 1) := by decide +kernel
theorem dX9_addTroop_79 : decode cX9_addTroop 79 = .ok (.iload_n 2, 1) := by decide +kernel
theorem dX9_addTroop_80 : decode cX9_addTroop 80 = .ok (.iload_n 3, 1) := by decide +kernel
theorem dX9_addTroop_81 : decode cX9_addTroop 81 = .ok (.invokevirtual 96, 3) := by decide +kernel
theorem dX9_addTroop_84 : decode cX9_addTroop 84 = .ok (.ireturn, 1) := by decide +kernel
theorem dX9_needTroop_0 : decode cX9_needTroop 0 = .ok (.iload_n 1, 1) := by decide +kernel
theorem dX9_needTroop_1 : decode cX9_needTroop 1 = .ok (.ifCond .lt 14, 3) := by decide +kernel
theorem dX9_needTroop_4 : decode cX9_needTroop 4 = .ok (.iload_n 1, 1) := by decide +kernel
theorem dX9_needTroop_5 : decode cX9_needTroop 5 = .ok (.aload_n 0, 1) := by decide +kernel
theorem dX9_needTroop_6 : decode cX9_needTroop 6 = .ok (.getfield 12, 3) := by decide +kernel
theorem dX9_needTroop_9 : decode cX9_needTroop 9 = .ok (.getfield 83, 3) := by decide +kernel
theorem dX9_needTroop_12 : decode cX9_needTroop 12 = .ok (.if_icmp .lt 14, 3) := by decide +kernel
theorem dX9_needTroop_15 : decode cX9_needTroop 15 = .ok (.new 181, 3) := by decide +kernel
theorem dX9_needTroop_18 : decode cX9_needTroop 18 = .ok (.dup, 1) := by decide +kernel
theorem dX9_needTroop_19 : decode cX9_needTroop 19 = .ok (.ldc_w 269, 3) := by decide +kernel
theorem dX9_needTroop_22 : decode cX9_needTroop 22 = .ok (.invokespecial 185, 3) := by decide +kernel
theorem dX9_needTroop_25 : decode cX9_needTroop 25 = .ok (.athrow, 1) := by decide +kernel
theorem dX9_needTroop_26 : decode cX9_needTroop 26 = .ok (.return_, 1) := by decide +kernel
theorem dX9_sendOrder_0 : decode cX9_sendOrder 0 = .ok (.aload_n 0, 1) := by decide +kernel
theorem dX9_sendOrder_1 : decode cX9_sendOrder 1 = .ok (.getfield 36, 3) := by decide +kernel
theorem dX9_sendOrder_4 : decode cX9_sendOrder 4 = .ok (.aload_n 0, 1) := by decide +kernel
theorem dX9_sendOrder_5 : decode cX9_sendOrder 5 = .ok (.getfield 12, 3) := by decide +kernel
theorem dX9_sendOrder_8 : decode cX9_sendOrder 8 = .ok (.iload_n 1, 1) := by decide +kernel
theorem dX9_sendOrder_9 : decode cX9_sendOrder 9 = .ok (.invokevirtual 275, 3) := by decide +kernel
theorem dX9_sendOrder_12 : decode cX9_sendOrder 12 = .ok (.istore_n 3, 1) := by decide +kernel
theorem dX9_sendOrder_13 : decode cX9_sendOrder 13 = .ok (.aload_n 0, 1) := by decide +kernel
theorem dX9_sendOrder_14 : decode cX9_sendOrder 14 = .ok (.getfield 12, 3) := by decide +kernel
theorem dX9_sendOrder_17 : decode cX9_sendOrder 17 = .ok (.iload_n 1, 1) := by decide +kernel
theorem dX9_sendOrder_18 : decode cX9_sendOrder 18 = .ok (.iload_n 2, 1) := by decide +kernel
theorem dX9_sendOrder_19 : decode cX9_sendOrder 19 = .ok (.aload_n 0, 1) := by decide +kernel
theorem dX9_sendOrder_20 : decode cX9_sendOrder 20 = .ok (.getfield 12, 3) := by decide +kernel
theorem dX9_sendOrder_23 : decode cX9_sendOrder 23 = .ok (.getfield 115, 3) := by decide +kernel
theorem dX9_sendOrder_26 : decode cX9_sendOrder 26 = .ok (.iload_n 3, 1) := by decide +kernel
theorem dX9_sendOrder_27 : decode cX9_sendOrder 27 = .ok (.iadd, 1) := by decide +kernel
theorem dX9_sendOrder_28 : decode cX9_sendOrder 28 = .ok (.invokevirtual 278, 3) := by decide +kernel
theorem dX9_sendOrder_31 : decode cX9_sendOrder 31 = .ok (.iload_n 3, 1) := by decide +kernel
theorem dX9_sendOrder_32 : decode cX9_sendOrder 32 = .ok (.ireturn, 1) := by decide +kernel
theorem dX9_order_0 : decode cX9_order 0 = .ok (.aload_n 0, 1) := by decide +kernel
theorem dX9_order_1 : decode cX9_order 1 = .ok (.iload_n 1, 1) := by decide +kernel
theorem dX9_order_2 : decode cX9_order 2 = .ok (.invokevirtual 99, 3) := by decide +kernel
theorem dX9_order_5 : decode cX9_order 5 = .ok (.iload_n 2, 1) := by decide +kernel
theorem dX9_order_6 : decode cX9_order 6 = .ok (.invokestatic 47, 3) := by decide +kernel
theorem dX9_order_9 : decode cX9_order 9 = .ok (.aload_n 0, 1) := by decide +kernel
theorem dX9_order_10 : decode cX9_order 10 = .ok (.getfield 36, 3) := by decide +kernel
theorem dX9_order_13 : decode cX9_order 13 = .ok (.aload_n 0, 1) := by decide +kernel
theorem dX9_order_14 : decode cX9_order 14 = .ok (.getfield 12, 3) := by decide +kernel
theorem dX9_order_17 : decode cX9_order 17 = .ok (.iload_n 1, 1) := by decide +kernel
theorem dX9_order_18 : decode cX9_order 18 = .ok (.invokevirtual 102, 3) := by decide +kernel
theorem dX9_order_21 : decode cX9_order 21 = .ok (.ifCond .eq 13, 3) := by decide +kernel
theorem dX9_order_24 : decode cX9_order 24 = .ok (.new 91, 3) := by decide +kernel
theorem dX9_order_27 : decode cX9_order 27 = .ok (.dup, 1) := by decide +kernel
theorem dX9_order_28 : decode cX9_order 28 = .ok (.ldc 106, 2) := by decide +kernel
theorem dX9_order_30 : decode cX9_order 30 = .ok (.invokespecial 95, 3) := by decide +kernel
theorem dX9_order_33 : decode cX9_order 33 = .ok (.athrow, 1) := by decide +kernel
theorem dX9_order_34 : decode cX9_order 34 = .ok (.aload_n 0, 1) := by decide +kernel
theorem dX9_order_35 : decode cX9_order 35 = .ok (.getfield 22, 3) := by decide +kernel
theorem dX9_order_38 : decode cX9_order 38 = .ok (.aload_n 0, 1) := by decide +kernel
theorem dX9_order_39 : decode cX9_order 39 = .ok (.getfield 12, 3) := by decide +kernel
theorem dX9_order_42 : decode cX9_order 42 = .ok (.invokevirtual 60, 3) := by decide +kernel
theorem dX9_order_45 : decode cX9_order 45 = .ok (.aload_n 0, 1) := by decide +kernel
theorem dX9_order_46 : decode cX9_order 46 = .ok (.iload_n 1, 1) := by decide +kernel
theorem dX9_order_47 : decode cX9_order 47 = .ok (.iload_n 2, 1) := by decide +kernel
theorem dX9_order_48 : decode cX9_order 48 = .ok (.invokevirtual 108, 3) := by decide +kernel
theorem dX9_order_51 : decode cX9_order 51 = .ok (.ireturn, 1) := by decide +kernel
theorem dX9_needTurns_0 : decode cX9_needTurns 0 = .ok (.iload_n 0, 1) := by decide +kernel
theorem dX9_needTurns_1 : decode cX9_needTurns 1 = .ok (.iconst 1, 1) := by decide +kernel
theorem dX9_needTurns_2 : decode cX9_needTurns 2 = .ok (.if_icmp .lt 9, 3) := by decide +kernel
theorem dX9_needTurns_5 : decode cX9_needTurns 5 = .ok (.iload_n 0, 1) := by decide +kernel
theorem dX9_needTurns_6 : decode cX9_needTurns 6 = .ok (.bipush 50, 2) := by decide +kernel
theorem dX9_needTurns_8 : decode cX9_needTurns 8 = .ok (.if_icmp .le 14, 3) := by decide +kernel
theorem dX9_needTurns_11 : decode cX9_needTurns 11 = .ok (.new 51, 3) := by decide +kernel
theorem dX9_needTurns_14 : decode cX9_needTurns 14 = .ok (.dup, 1) := by decide +kernel
theorem dX9_needTurns_15 : decode cX9_needTurns 15 = .ok (.ldc_w 273, 3) := by decide +kernel
theorem dX9_needTurns_18 : decode cX9_needTurns 18 = .ok (.invokespecial 55, 3) := by decide +kernel
theorem dX9_needTurns_21 : decode cX9_needTurns 21 = .ok (.athrow, 1) := by decide +kernel
theorem dX9_needTurns_22 : decode cX9_needTurns 22 = .ok (.return_, 1) := by decide +kernel
theorem dX9_pass_0 : decode cX9_pass 0 = .ok (.iload_n 1, 1) := by decide +kernel
theorem dX9_pass_1 : decode cX9_pass 1 = .ok (.invokestatic 112, 3) := by decide +kernel
theorem dX9_pass_4 : decode cX9_pass 4 = .ok (.aload_n 0, 1) := by decide +kernel
theorem dX9_pass_5 : decode cX9_pass 5 = .ok (.getfield 12, 3) := by decide +kernel
theorem dX9_pass_8 : decode cX9_pass 8 = .ok (.getfield 115, 3) := by decide +kernel
theorem dX9_pass_11 : decode cX9_pass 11 = .ok (.iload_n 1, 1) := by decide +kernel
theorem dX9_pass_12 : decode cX9_pass 12 = .ok (.iadd, 1) := by decide +kernel
theorem dX9_pass_13 : decode cX9_pass 13 = .ok (.sipush 1000, 3) := by decide +kernel
theorem dX9_pass_16 : decode cX9_pass 16 = .ok (.if_icmp .le 13, 3) := by decide +kernel
theorem dX9_pass_19 : decode cX9_pass 19 = .ok (.new 91, 3) := by decide +kernel
theorem dX9_pass_22 : decode cX9_pass 22 = .ok (.dup, 1) := by decide +kernel
theorem dX9_pass_23 : decode cX9_pass 23 = .ok (.ldc 118, 2) := by decide +kernel
theorem dX9_pass_25 : decode cX9_pass 25 = .ok (.invokespecial 95, 3) := by decide +kernel
theorem dX9_pass_28 : decode cX9_pass 28 = .ok (.athrow, 1) := by decide +kernel
theorem dX9_pass_29 : decode cX9_pass 29 = .ok (.aload_n 0, 1) := by decide +kernel
theorem dX9_pass_30 : decode cX9_pass 30 = .ok (.getfield 22, 3) := by decide +kernel
theorem dX9_pass_33 : decode cX9_pass 33 = .ok (.aload_n 0, 1) := by decide +kernel
theorem dX9_pass_34 : decode cX9_pass 34 = .ok (.getfield 12, 3) := by decide +kernel
theorem dX9_pass_37 : decode cX9_pass 37 = .ok (.invokevirtual 60, 3) := by decide +kernel
theorem dX9_pass_40 : decode cX9_pass 40 = .ok (.aload_n 0, 1) := by decide +kernel
theorem dX9_pass_41 : decode cX9_pass 41 = .ok (.getfield 12, 3) := by decide +kernel
theorem dX9_pass_44 : decode cX9_pass 44 = .ok (.invokevirtual 120, 3) := by decide +kernel

theorem dX8_dropFirstOrders_40 : decode cX8_dropFirstOrders 40 = .ok (.putfield 50, 3) := by decide +kernel
theorem dX8_dropFirstOrders_43 : decode cX8_dropFirstOrders 43 = .ok (.return_, 1) := by decide +kernel
theorem dX2_bringOrders_0 : decode cX2_bringOrders 0 = .ok (.iconst 0, 1) := by decide +kernel
theorem dX2_bringOrders_1 : decode cX2_bringOrders 1 = .ok (.istore_n 1, 1) := by decide +kernel
theorem dX2_bringOrders_2 : decode cX2_bringOrders 2 = .ok (.iload_n 1, 1) := by decide +kernel
theorem dX2_bringOrders_3 : decode cX2_bringOrders 3 = .ok (.aload_n 0, 1) := by decide +kernel
theorem dX2_bringOrders_4 : decode cX2_bringOrders 4 = .ok (.getfield 45, 3) := by decide +kernel
theorem dX2_bringOrders_7 : decode cX2_bringOrders 7 = .ok (.if_icmp .ge 80, 3) := by decide +kernel
theorem dX2_bringOrders_10 : decode cX2_bringOrders 10 = .ok (.aload_n 0, 1) := by decide +kernel
theorem dX2_bringOrders_11 : decode cX2_bringOrders 11 = .ok (.getfield 48, 3) := by decide +kernel
theorem dX2_bringOrders_14 : decode cX2_bringOrders 14 = .ok (.iload_n 1, 1) := by decide +kernel
theorem dX2_bringOrders_15 : decode cX2_bringOrders 15 = .ok (.aaload, 1) := by decide +kernel
theorem dX2_bringOrders_16 : decode cX2_bringOrders 16 = .ok (.getfield 52, 3) := by decide +kernel
theorem dX2_bringOrders_19 : decode cX2_bringOrders 19 = .ok (.aload_n 0, 1) := by decide +kernel
theorem dX2_bringOrders_20 : decode cX2_bringOrders 20 = .ok (.getfield 18, 3) := by decide +kernel
theorem dX2_bringOrders_23 : decode cX2_bringOrders 23 = .ok (.if_icmp .gt 64, 3) := by decide +kernel
theorem dX2_bringOrders_26 : decode cX2_bringOrders 26 = .ok (.aload_n 0, 1) := by decide +kernel
theorem dX2_bringOrders_27 : decode cX2_bringOrders 27 = .ok (.getfield 48, 3) := by decide +kernel
theorem dX2_bringOrders_30 : decode cX2_bringOrders 30 = .ok (.iload_n 1, 1) := by decide +kernel
theorem dX2_bringOrders_31 : decode cX2_bringOrders 31 = .ok (.aaload, 1) := by decide +kernel
theorem dX2_bringOrders_32 : decode cX2_bringOrders 32 = .ok (.astore_n 2, 1) := by decide +kernel
theorem dX2_bringOrders_33 : decode cX2_bringOrders 33 = .ok (.aload_n 0, 1) := by decide +kernel
theorem dX2_bringOrders_34 : decode cX2_bringOrders 34 = .ok (.getfield 37, 3) := by decide +kernel
theorem dX2_bringOrders_37 : decode cX2_bringOrders 37 = .ok (.aload_n 2, 1) := by decide +kernel
theorem dX2_bringOrders_38 : decode cX2_bringOrders 38 = .ok (.getfield 57, 3) := by decide +kernel
theorem dX2_bringOrders_41 : decode cX2_bringOrders 41 = .ok (.aaload, 1) := by decide +kernel
theorem dX2_bringOrders_42 : decode cX2_bringOrders 42 = .ok (.astore_n 3, 1) := by decide +kernel
theorem dX2_bringOrders_43 : decode cX2_bringOrders 43 = .ok (.aload_n 3, 1) := by decide +kernel
theorem dX2_bringOrders_44 : decode cX2_bringOrders 44 = .ok (.getfield 60, 3) := by decide +kernel
theorem dX2_bringOrders_47 : decode cX2_bringOrders 47 = .ok (.ifCond .ne 24, 3) := by decide +kernel
theorem dX2_bringOrders_50 : decode cX2_bringOrders 50 = .ok (.aload_n 3, 1) := by decide +kernel
theorem dX2_bringOrders_51 : decode cX2_bringOrders 51 = .ok (.aload_n 2, 1) := by decide +kernel
theorem dX2_bringOrders_52 : decode cX2_bringOrders 52 = .ok (.getfield 65, 3) := by decide +kernel
theorem dX2_bringOrders_55 : decode cX2_bringOrders 55 = .ok (.putfield 68, 3) := by decide +kernel
theorem dX2_bringOrders_58 : decode cX2_bringOrders 58 = .ok (.aload_n 3, 1) := by decide +kernel
theorem dX2_bringOrders_59 : decode cX2_bringOrders 59 = .ok (.dup, 1) := by decide +kernel
theorem dX2_bringOrders_60 : decode cX2_bringOrders 60 = .ok (.getfield 69, 3) := by decide +kernel
theorem dX2_bringOrders_63 : decode cX2_bringOrders 63 = .ok (.iconst 1, 1) := by decide +kernel
theorem dX2_bringOrders_64 : decode cX2_bringOrders 64 = .ok (.iadd, 1) := by decide +kernel
theorem dX2_bringOrders_65 : decode cX2_bringOrders 65 = .ok (.putfield 69, 3) := by decide +kernel
theorem dX2_bringOrders_68 : decode cX2_bringOrders 68 = .ok (.goto 13, 3) := by decide +kernel
theorem dX2_bringOrders_71 : decode cX2_bringOrders 71 = .ok (.aload_n 0, 1) := by decide +kernel
theorem dX2_bringOrders_72 : decode cX2_bringOrders 72 = .ok (.dup, 1) := by decide +kernel
theorem dX2_bringOrders_73 : decode cX2_bringOrders 73 = .ok (.getfield 72, 3) := by decide +kernel
theorem dX2_bringOrders_76 : decode cX2_bringOrders 76 = .ok (.iconst 1, 1) := by decide +kernel
theorem dX2_bringOrders_77 : decode cX2_bringOrders 77 = .ok (.iadd, 1) := by decide +kernel
theorem dX2_bringOrders_78 : decode cX2_bringOrders 78 = .ok (.putfield 72, 3) := by decide +kernel
theorem dX2_bringOrders_81 : decode cX2_bringOrders 81 = .ok (.iinc 1 1, 3) := by decide +kernel
theorem dX2_bringOrders_84 : decode cX2_bringOrders 84 = .ok (.goto (-82), 3) := by decide +kernel
theorem dX2_bringOrders_87 : decode cX2_bringOrders 87 = .ok (.aload_n 0, 1) := by decide +kernel
theorem dX2_bringOrders_88 : decode cX2_bringOrders 88 = .ok (.iload_n 1, 1) := by decide +kernel
theorem dX2_bringOrders_89 : decode cX2_bringOrders 89 = .ok (.invokevirtual 75, 3) := by decide +kernel
theorem dX2_bringOrders_92 : decode cX2_bringOrders 92 = .ok (.return_, 1) := by decide +kernel
theorem dX4_openAll_0 : decode cX4_openAll 0 = .ok (.aload_n 0, 1) := by decide +kernel
theorem dX4_openAll_1 : decode cX4_openAll 1 = .ok (.getfield 18, 3) := by decide +kernel
theorem dX4_openAll_4 : decode cX4_openAll 4 = .ok (.iconst 0, 1) := by decide +kernel
theorem dX4_openAll_5 : decode cX4_openAll 5 = .ok (.invokestatic 21, 3) := by decide +kernel
theorem dX4_openAll_8 : decode cX4_openAll 8 = .ok (.return_, 1) := by decide +kernel
theorem dX4_freeStepNearer_0 : decode cX4_freeStepNearer 0 = .ok (.iconst 0, 1) := by decide +kernel
theorem dX4_freeStepNearer_1 : decode cX4_freeStepNearer 1 = .ok (.istore_n 3, 1) := by decide +kernel
theorem dX4_freeStepNearer_2 : decode cX4_freeStepNearer 2 = .ok (.iload_n 3, 1) := by decide +kernel
theorem dX4_freeStepNearer_3 : decode cX4_freeStepNearer 3 = .ok (.iconst 4, 1) := by decide +kernel
theorem dX4_freeStepNearer_4 : decode cX4_freeStepNearer 4 = .ok (.if_icmp .ge 72, 3) := by decide +kernel
theorem dX4_freeStepNearer_7 : decode cX4_freeStepNearer 7 = .ok (.aload_n 0, 1) := by decide +kernel
theorem dX4_freeStepNearer_8 : decode cX4_freeStepNearer 8 = .ok (.getfield 9, 3) := by decide +kernel
theorem dX4_freeStepNearer_11 : decode cX4_freeStepNearer 11 = .ok (.iload_n 2, 1) := by decide +kernel
theorem dX4_freeStepNearer_12 : decode cX4_freeStepNearer 12 = .ok (.iaload, 1) := by decide +kernel
theorem dX4_freeStepNearer_13 : decode cX4_freeStepNearer 13 = .ok (.ifCond .le 63, 3) := by decide +kernel
theorem dX4_freeStepNearer_16 : decode cX4_freeStepNearer 16 = .ok (.iload_n 2, 1) := by decide +kernel
theorem dX4_freeStepNearer_17 : decode cX4_freeStepNearer 17 = .ok (.iload_n 3, 1) := by decide +kernel
theorem dX4_freeStepNearer_18 : decode cX4_freeStepNearer 18 = .ok (.invokestatic 27, 3) := by decide +kernel
theorem dX4_freeStepNearer_21 : decode cX4_freeStepNearer 21 = .ok (.istore 4, 2) := by decide +kernel
theorem dX4_freeStepNearer_23 : decode cX4_freeStepNearer 23 = .ok (.iload 4, 2) := by decide +kernel
theorem dX4_freeStepNearer_25 : decode cX4_freeStepNearer 25 = .ok (.iconst (-1), 1) := by decide +kernel
theorem dX4_freeStepNearer_26 : decode cX4_freeStepNearer 26 = .ok (.if_icmp .eq 44, 3) := by decide +kernel
theorem dX4_freeStepNearer_29 : decode cX4_freeStepNearer 29 = .ok (.aload_n 0, 1) := by decide +kernel
theorem dX4_freeStepNearer_30 : decode cX4_freeStepNearer 30 = .ok (.getfield 9, 3) := by decide +kernel
theorem dX4_freeStepNearer_33 : decode cX4_freeStepNearer 33 = .ok (.iload 4, 2) := by decide +kernel
theorem dX4_freeStepNearer_35 : decode cX4_freeStepNearer 35 = .ok (.iaload, 1) := by decide +kernel
theorem dX4_freeStepNearer_36 : decode cX4_freeStepNearer 36 = .ok (.aload_n 0, 1) := by decide +kernel
theorem dX4_freeStepNearer_37 : decode cX4_freeStepNearer 37 = .ok (.getfield 9, 3) := by decide +kernel
theorem dX4_freeStepNearer_40 : decode cX4_freeStepNearer 40 = .ok (.iload_n 2, 1) := by decide +kernel
theorem dX4_freeStepNearer_41 : decode cX4_freeStepNearer 41 = .ok (.iaload, 1) := by decide +kernel
theorem dX4_freeStepNearer_42 : decode cX4_freeStepNearer 42 = .ok (.iconst 1, 1) := by decide +kernel
theorem dX4_freeStepNearer_43 : decode cX4_freeStepNearer 43 = .ok (.isub, 1) := by decide +kernel
theorem dX4_freeStepNearer_44 : decode cX4_freeStepNearer 44 = .ok (.if_icmp .ne 26, 3) := by decide +kernel
theorem dX4_freeStepNearer_47 : decode cX4_freeStepNearer 47 = .ok (.aload_n 0, 1) := by decide +kernel
theorem dX4_freeStepNearer_48 : decode cX4_freeStepNearer 48 = .ok (.getfield 18, 3) := by decide +kernel
theorem dX4_freeStepNearer_51 : decode cX4_freeStepNearer 51 = .ok (.iload 4, 2) := by decide +kernel
theorem dX4_freeStepNearer_53 : decode cX4_freeStepNearer 53 = .ok (.iaload, 1) := by decide +kernel
theorem dX4_freeStepNearer_54 : decode cX4_freeStepNearer 54 = .ok (.ifCond .ne 16, 3) := by decide +kernel
theorem dX4_freeStepNearer_57 : decode cX4_freeStepNearer 57 = .ok (.aload_n 1, 1) := by decide +kernel
theorem dX4_freeStepNearer_58 : decode cX4_freeStepNearer 58 = .ok (.iload_n 2, 1) := by decide +kernel
theorem dX4_freeStepNearer_59 : decode cX4_freeStepNearer 59 = .ok (.iload 4, 2) := by decide +kernel
theorem dX4_freeStepNearer_61 : decode cX4_freeStepNearer 61 = .ok (.invokevirtual 35, 3) := by decide +kernel
theorem dX4_freeStepNearer_64 : decode cX4_freeStepNearer 64 = .ok (.ifCond .eq 6, 3) := by decide +kernel
theorem dX4_freeStepNearer_67 : decode cX4_freeStepNearer 67 = .ok (.iload 4, 2) := by decide +kernel
theorem dX4_freeStepNearer_69 : decode cX4_freeStepNearer 69 = .ok (.ireturn, 1) := by decide +kernel
theorem dX4_freeStepNearer_70 : decode cX4_freeStepNearer 70 = .ok (.iinc 3 1, 3) := by decide +kernel
theorem dX4_freeStepNearer_73 : decode cX4_freeStepNearer 73 = .ok (.goto (-71), 3) := by decide +kernel
theorem dX4_freeStepNearer_76 : decode cX4_freeStepNearer 76 = .ok (.iconst (-1), 1) := by decide +kernel
theorem dX4_freeStepNearer_77 : decode cX4_freeStepNearer 77 = .ok (.ireturn, 1) := by decide +kernel
theorem dX2_stepToGoal_0 : decode cX2_stepToGoal 0 = .ok (.aload_n 1, 1) := by decide +kernel
theorem dX2_stepToGoal_1 : decode cX2_stepToGoal 1 = .ok (.getfield 37, 3) := by decide +kernel
theorem dX2_stepToGoal_4 : decode cX2_stepToGoal 4 = .ok (.iload_n 2, 1) := by decide +kernel
theorem dX2_stepToGoal_5 : decode cX2_stepToGoal 5 = .ok (.aaload, 1) := by decide +kernel
theorem dX2_stepToGoal_6 : decode cX2_stepToGoal 6 = .ok (.astore_n 3, 1) := by decide +kernel
theorem dX2_stepToGoal_7 : decode cX2_stepToGoal 7 = .ok (.aload_n 0, 1) := by decide +kernel
theorem dX2_stepToGoal_8 : decode cX2_stepToGoal 8 = .ok (.getfield 12, 3) := by decide +kernel
theorem dX2_stepToGoal_11 : decode cX2_stepToGoal 11 = .ok (.invokevirtual 89, 3) := by decide +kernel
theorem dX2_stepToGoal_14 : decode cX2_stepToGoal 14 = .ok (.iconst 0, 1) := by decide +kernel
theorem dX2_stepToGoal_15 : decode cX2_stepToGoal 15 = .ok (.istore 4, 2) := by decide +kernel
theorem dX2_stepToGoal_17 : decode cX2_stepToGoal 17 = .ok (.iload 4, 2) := by decide +kernel
theorem dX2_stepToGoal_19 : decode cX2_stepToGoal 19 = .ok (.aload_n 1, 1) := by decide +kernel
theorem dX2_stepToGoal_20 : decode cX2_stepToGoal 20 = .ok (.getfield 34, 3) := by decide +kernel
theorem dX2_stepToGoal_23 : decode cX2_stepToGoal 23 = .ok (.if_icmp .ge 48, 3) := by decide +kernel
theorem dX2_stepToGoal_26 : decode cX2_stepToGoal 26 = .ok (.iload 4, 2) := by decide +kernel
theorem dX2_stepToGoal_28 : decode cX2_stepToGoal 28 = .ok (.iload_n 2, 1) := by decide +kernel
theorem dX2_stepToGoal_29 : decode cX2_stepToGoal 29 = .ok (.if_icmp .eq 36, 3) := by decide +kernel
theorem dX2_stepToGoal_32 : decode cX2_stepToGoal 32 = .ok (.aload_n 1, 1) := by decide +kernel
theorem dX2_stepToGoal_33 : decode cX2_stepToGoal 33 = .ok (.getfield 37, 3) := by decide +kernel
theorem dX2_stepToGoal_36 : decode cX2_stepToGoal 36 = .ok (.iload 4, 2) := by decide +kernel
theorem dX2_stepToGoal_38 : decode cX2_stepToGoal 38 = .ok (.aaload, 1) := by decide +kernel
theorem dX2_stepToGoal_39 : decode cX2_stepToGoal 39 = .ok (.getfield 60, 3) := by decide +kernel
theorem dX2_stepToGoal_42 : decode cX2_stepToGoal 42 = .ok (.iconst 2, 1) := by decide +kernel
theorem dX2_stepToGoal_43 : decode cX2_stepToGoal 43 = .ok (.if_icmp .eq 22, 3) := by decide +kernel
theorem dX2_stepToGoal_46 : decode cX2_stepToGoal 46 = .ok (.aload_n 0, 1) := by decide +kernel
theorem dX2_stepToGoal_47 : decode cX2_stepToGoal 47 = .ok (.getfield 12, 3) := by decide +kernel
theorem dX2_stepToGoal_50 : decode cX2_stepToGoal 50 = .ok (.getfield 92, 3) := by decide +kernel
theorem dX2_stepToGoal_53 : decode cX2_stepToGoal 53 = .ok (.aload_n 1, 1) := by decide +kernel
theorem dX2_stepToGoal_54 : decode cX2_stepToGoal 54 = .ok (.getfield 37, 3) := by decide +kernel
theorem dX2_stepToGoal_57 : decode cX2_stepToGoal 57 = .ok (.iload 4, 2) := by decide +kernel
theorem dX2_stepToGoal_59 : decode cX2_stepToGoal 59 = .ok (.aaload, 1) := by decide +kernel
theorem dX2_stepToGoal_60 : decode cX2_stepToGoal 60 = .ok (.getfield 79, 3) := by decide +kernel
theorem dX2_stepToGoal_63 : decode cX2_stepToGoal 63 = .ok (.iconst 1, 1) := by decide +kernel
theorem dX2_stepToGoal_64 : decode cX2_stepToGoal 64 = .ok (.iastore, 1) := by decide +kernel
theorem dX2_stepToGoal_65 : decode cX2_stepToGoal 65 = .ok (.iinc 4 1, 3) := by decide +kernel
theorem dX2_stepToGoal_68 : decode cX2_stepToGoal 68 = .ok (.goto (-51), 3) := by decide +kernel
theorem dX2_stepToGoal_71 : decode cX2_stepToGoal 71 = .ok (.aload_n 0, 1) := by decide +kernel
theorem dX2_stepToGoal_72 : decode cX2_stepToGoal 72 = .ok (.getfield 12, 3) := by decide +kernel
theorem dX2_stepToGoal_75 : decode cX2_stepToGoal 75 = .ok (.aload_n 1, 1) := by decide +kernel
theorem dX2_stepToGoal_76 : decode cX2_stepToGoal 76 = .ok (.getfield 96, 3) := by decide +kernel
theorem dX2_stepToGoal_79 : decode cX2_stepToGoal 79 = .ok (.aload_n 3, 1) := by decide +kernel
theorem dX2_stepToGoal_80 : decode cX2_stepToGoal 80 = .ok (.getfield 68, 3) := by decide +kernel
theorem dX2_stepToGoal_83 : decode cX2_stepToGoal 83 = .ok (.aload_n 3, 1) := by decide +kernel
theorem dX2_stepToGoal_84 : decode cX2_stepToGoal 84 = .ok (.getfield 79, 3) := by decide +kernel
theorem dX2_stepToGoal_87 : decode cX2_stepToGoal 87 = .ok (.invokevirtual 100, 3) := by decide +kernel
theorem dX2_stepToGoal_90 : decode cX2_stepToGoal 90 = .ok (.aload_n 0, 1) := by decide +kernel
theorem dX2_stepToGoal_91 : decode cX2_stepToGoal 91 = .ok (.getfield 12, 3) := by decide +kernel
theorem dX2_stepToGoal_94 : decode cX2_stepToGoal 94 = .ok (.aload_n 1, 1) := by decide +kernel
theorem dX2_stepToGoal_95 : decode cX2_stepToGoal 95 = .ok (.getfield 96, 3) := by decide +kernel
theorem dX2_stepToGoal_98 : decode cX2_stepToGoal 98 = .ok (.aload_n 3, 1) := by decide +kernel
theorem dX2_stepToGoal_99 : decode cX2_stepToGoal 99 = .ok (.getfield 79, 3) := by decide +kernel
theorem dX2_stepToGoal_102 : decode cX2_stepToGoal 102 = .ok (.invokevirtual 104, 3) := by decide +kernel
theorem dX2_stepToGoal_105 : decode cX2_stepToGoal 105 = .ok (.istore 4, 2) := by decide +kernel
theorem dX2_stepToGoal_107 : decode cX2_stepToGoal 107 = .ok (.iload 4, 2) := by decide +kernel
theorem dX2_stepToGoal_109 : decode cX2_stepToGoal 109 = .ok (.iconst (-1), 1) := by decide +kernel
theorem dX2_stepToGoal_110 : decode cX2_stepToGoal 110 = .ok (.if_icmp .eq 9, 3) := by decide +kernel
theorem dX2_stepToGoal_113 : decode cX2_stepToGoal 113 = .ok (.aload_n 3, 1) := by decide +kernel
theorem dX2_stepToGoal_114 : decode cX2_stepToGoal 114 = .ok (.iload 4, 2) := by decide +kernel
theorem dX2_stepToGoal_116 : decode cX2_stepToGoal 116 = .ok (.putfield 79, 3) := by decide +kernel
theorem dX2_stepToGoal_119 : decode cX2_stepToGoal 119 = .ok (.return_, 1) := by decide +kernel
theorem dX8_troopIn_0 : decode cX8_troopIn 0 = .ok (.iconst 0, 1) := by decide +kernel
theorem dX8_troopIn_1 : decode cX8_troopIn 1 = .ok (.istore_n 2, 1) := by decide +kernel
theorem dX8_troopIn_2 : decode cX8_troopIn 2 = .ok (.iload_n 2, 1) := by decide +kernel
theorem dX8_troopIn_3 : decode cX8_troopIn 3 = .ok (.aload_n 0, 1) := by decide +kernel
theorem dX8_troopIn_4 : decode cX8_troopIn 4 = .ok (.getfield 43, 3) := by decide +kernel
theorem dX8_troopIn_7 : decode cX8_troopIn 7 = .ok (.if_icmp .ge 37, 3) := by decide +kernel
theorem dX8_troopIn_10 : decode cX8_troopIn 10 = .ok (.aload_n 0, 1) := by decide +kernel
theorem dX8_troopIn_11 : decode cX8_troopIn 11 = .ok (.getfield 24, 3) := by decide +kernel
theorem dX8_troopIn_14 : decode cX8_troopIn 14 = .ok (.iload_n 2, 1) := by decide +kernel
theorem dX8_troopIn_15 : decode cX8_troopIn 15 = .ok (.aaload, 1) := by decide +kernel
theorem dX8_troopIn_16 : decode cX8_troopIn 16 = .ok (.getfield 76, 3) := by decide +kernel
theorem dX8_troopIn_19 : decode cX8_troopIn 19 = .ok (.iconst 2, 1) := by decide +kernel
theorem dX8_troopIn_20 : decode cX8_troopIn 20 = .ok (.if_icmp .eq 18, 3) := by decide +kernel
theorem dX8_troopIn_23 : decode cX8_troopIn 23 = .ok (.aload_n 0, 1) := by decide +kernel
theorem dX8_troopIn_24 : decode cX8_troopIn 24 = .ok (.getfield 24, 3) := by decide +kernel
theorem dX8_troopIn_27 : decode cX8_troopIn 27 = .ok (.iload_n 2, 1) := by decide +kernel
theorem dX8_troopIn_28 : decode cX8_troopIn 28 = .ok (.aaload, 1) := by decide +kernel
theorem dX8_troopIn_29 : decode cX8_troopIn 29 = .ok (.getfield 79, 3) := by decide +kernel
theorem dX8_troopIn_32 : decode cX8_troopIn 32 = .ok (.iload_n 1, 1) := by decide +kernel
theorem dX8_troopIn_33 : decode cX8_troopIn 33 = .ok (.if_icmp .ne 5, 3) := by decide +kernel
theorem dX8_troopIn_36 : decode cX8_troopIn 36 = .ok (.iload_n 2, 1) := by decide +kernel
theorem dX8_troopIn_37 : decode cX8_troopIn 37 = .ok (.ireturn, 1) := by decide +kernel
theorem dX8_troopIn_38 : decode cX8_troopIn 38 = .ok (.iinc 2 1, 3) := by decide +kernel
theorem dX8_troopIn_41 : decode cX8_troopIn 41 = .ok (.goto (-39), 3) := by decide +kernel
theorem dX8_troopIn_44 : decode cX8_troopIn 44 = .ok (.iconst (-1), 1) := by decide +kernel
theorem dX8_troopIn_45 : decode cX8_troopIn 45 = .ok (.ireturn, 1) := by decide +kernel
theorem dX2_stepBack_0 : decode cX2_stepBack 0 = .ok (.aload_n 1, 1) := by decide +kernel
theorem dX2_stepBack_1 : decode cX2_stepBack 1 = .ok (.getfield 79, 3) := by decide +kernel
theorem dX2_stepBack_4 : decode cX2_stepBack 4 = .ok (.aload_n 1, 1) := by decide +kernel
theorem dX2_stepBack_5 : decode cX2_stepBack 5 = .ok (.getfield 108, 3) := by decide +kernel
theorem dX2_stepBack_8 : decode cX2_stepBack 8 = .ok (.ifCond .ne 7, 3) := by decide +kernel
theorem dX2_stepBack_11 : decode cX2_stepBack 11 = .ok (.iconst 3, 1) := by decide +kernel
theorem dX2_stepBack_12 : decode cX2_stepBack 12 = .ok (.goto 4, 3) := by decide +kernel
theorem dX2_stepBack_15 : decode cX2_stepBack 15 = .ok (.iconst 1, 1) := by decide +kernel
theorem dX2_stepBack_16 : decode cX2_stepBack 16 = .ok (.invokestatic 111, 3) := by decide +kernel
theorem dX2_stepBack_19 : decode cX2_stepBack 19 = .ok (.istore_n 2, 1) := by decide +kernel
theorem dX2_stepBack_20 : decode cX2_stepBack 20 = .ok (.iload_n 2, 1) := by decide +kernel
theorem dX2_stepBack_21 : decode cX2_stepBack 21 = .ok (.iconst (-1), 1) := by decide +kernel
theorem dX2_stepBack_22 : decode cX2_stepBack 22 = .ok (.if_icmp .eq 32, 3) := by decide +kernel
theorem dX2_stepBack_25 : decode cX2_stepBack 25 = .ok (.aload_n 0, 1) := by decide +kernel
theorem dX2_stepBack_26 : decode cX2_stepBack 26 = .ok (.getfield 96, 3) := by decide +kernel
theorem dX2_stepBack_29 : decode cX2_stepBack 29 = .ok (.aload_n 1, 1) := by decide +kernel
theorem dX2_stepBack_30 : decode cX2_stepBack 30 = .ok (.getfield 79, 3) := by decide +kernel
theorem dX2_stepBack_33 : decode cX2_stepBack 33 = .ok (.iload_n 2, 1) := by decide +kernel
theorem dX2_stepBack_34 : decode cX2_stepBack 34 = .ok (.invokevirtual 115, 3) := by decide +kernel
theorem dX2_stepBack_37 : decode cX2_stepBack 37 = .ok (.ifCond .eq 17, 3) := by decide +kernel
theorem dX2_stepBack_40 : decode cX2_stepBack 40 = .ok (.aload_n 0, 1) := by decide +kernel
theorem dX2_stepBack_41 : decode cX2_stepBack 41 = .ok (.iload_n 2, 1) := by decide +kernel
theorem dX2_stepBack_42 : decode cX2_stepBack 42 = .ok (.invokevirtual 121, 3) := by decide +kernel
theorem dX2_stepBack_45 : decode cX2_stepBack 45 = .ok (.iconst (-1), 1) := by decide +kernel
theorem dX2_stepBack_46 : decode cX2_stepBack 46 = .ok (.if_icmp .ne 8, 3) := by decide +kernel
theorem dX2_stepBack_49 : decode cX2_stepBack 49 = .ok (.aload_n 1, 1) := by decide +kernel
theorem dX2_stepBack_50 : decode cX2_stepBack 50 = .ok (.iload_n 2, 1) := by decide +kernel
theorem dX2_stepBack_51 : decode cX2_stepBack 51 = .ok (.putfield 79, 3) := by decide +kernel
theorem dX2_stepBack_54 : decode cX2_stepBack 54 = .ok (.return_, 1) := by decide +kernel
theorem dX2_march_0 : decode cX2_march 0 = .ok (.iconst 0, 1) := by decide +kernel
theorem dX2_march_1 : decode cX2_march 1 = .ok (.istore_n 2, 1) := by decide +kernel
theorem dX2_march_2 : decode cX2_march 2 = .ok (.iload_n 2, 1) := by decide +kernel
theorem dX2_march_3 : decode cX2_march 3 = .ok (.aload_n 1, 1) := by decide +kernel
theorem dX2_march_4 : decode cX2_march 4 = .ok (.getfield 34, 3) := by decide +kernel
theorem dX2_march_7 : decode cX2_march 7 = .ok (.if_icmp .ge 56, 3) := by decide +kernel
theorem dX2_march_10 : decode cX2_march 10 = .ok (.aload_n 1, 1) := by decide +kernel
theorem dX2_march_11 : decode cX2_march 11 = .ok (.getfield 37, 3) := by decide +kernel
theorem dX2_march_14 : decode cX2_march 14 = .ok (.iload_n 2, 1) := by decide +kernel
theorem dX2_march_15 : decode cX2_march 15 = .ok (.aaload, 1) := by decide +kernel
theorem dX2_march_16 : decode cX2_march 16 = .ok (.astore_n 3, 1) := by decide +kernel
theorem dX2_march_17 : decode cX2_march 17 = .ok (.aload_n 3, 1) := by decide +kernel
theorem dX2_march_18 : decode cX2_march 18 = .ok (.getfield 60, 3) := by decide +kernel
theorem dX2_march_21 : decode cX2_march 21 = .ok (.ifCond .ne 23, 3) := by decide +kernel
theorem dX2_march_24 : decode cX2_march 24 = .ok (.aload_n 3, 1) := by decide +kernel
theorem dX2_march_25 : decode cX2_march 25 = .ok (.getfield 79, 3) := by decide +kernel
theorem dX2_march_28 : decode cX2_march 28 = .ok (.aload_n 3, 1) := by decide +kernel
theorem dX2_march_29 : decode cX2_march 29 = .ok (.getfield 68, 3) := by decide +kernel
theorem dX2_march_32 : decode cX2_march 32 = .ok (.if_icmp .eq 12, 3) := by decide +kernel
theorem dX2_march_35 : decode cX2_march 35 = .ok (.aload_n 0, 1) := by decide +kernel
theorem dX2_march_36 : decode cX2_march 36 = .ok (.aload_n 1, 1) := by decide +kernel
theorem dX2_march_37 : decode cX2_march 37 = .ok (.iload_n 2, 1) := by decide +kernel
theorem dX2_march_38 : decode cX2_march 38 = .ok (.invokevirtual 82, 3) := by decide +kernel
theorem dX2_march_41 : decode cX2_march 41 = .ok (.goto 16, 3) := by decide +kernel
theorem dX2_march_44 : decode cX2_march 44 = .ok (.aload_n 3, 1) := by decide +kernel
theorem dX2_march_45 : decode cX2_march 45 = .ok (.getfield 60, 3) := by decide +kernel
theorem dX2_march_48 : decode cX2_march 48 = .ok (.iconst 1, 1) := by decide +kernel
theorem dX2_march_49 : decode cX2_march 49 = .ok (.if_icmp .ne 8, 3) := by decide +kernel
theorem dX2_march_52 : decode cX2_march 52 = .ok (.aload_n 1, 1) := by decide +kernel
theorem dX2_march_53 : decode cX2_march 53 = .ok (.aload_n 3, 1) := by decide +kernel
theorem dX2_march_54 : decode cX2_march 54 = .ok (.invokestatic 86, 3) := by decide +kernel
theorem dX2_march_57 : decode cX2_march 57 = .ok (.iinc 2 1, 3) := by decide +kernel
theorem dX2_march_60 : decode cX2_march 60 = .ok (.goto (-58), 3) := by decide +kernel
theorem dX2_march_63 : decode cX2_march 63 = .ok (.return_, 1) := by decide +kernel
theorem dX7_isEnemyOf_0 : decode cX7_isEnemyOf 0 = .ok (.aload_n 0, 1) := by decide +kernel
theorem dX7_isEnemyOf_1 : decode cX7_isEnemyOf 1 = .ok (.getfield 24, 3) := by decide +kernel
theorem dX7_isEnemyOf_4 : decode cX7_isEnemyOf 4 = .ok (.iconst 2, 1) := by decide +kernel
theorem dX7_isEnemyOf_5 : decode cX7_isEnemyOf 5 = .ok (.if_icmp .eq 18, 3) := by decide +kernel
theorem dX7_isEnemyOf_8 : decode cX7_isEnemyOf 8 = .ok (.aload_n 0, 1) := by decide +kernel
theorem dX7_isEnemyOf_9 : decode cX7_isEnemyOf 9 = .ok (.getfield 9, 3) := by decide +kernel
theorem dX7_isEnemyOf_12 : decode cX7_isEnemyOf 12 = .ok (.aload_n 1, 1) := by decide +kernel
theorem dX7_isEnemyOf_13 : decode cX7_isEnemyOf 13 = .ok (.getfield 9, 3) := by decide +kernel
theorem dX7_isEnemyOf_16 : decode cX7_isEnemyOf 16 = .ok (.if_icmp .eq 7, 3) := by decide +kernel
theorem dX7_isEnemyOf_19 : decode cX7_isEnemyOf 19 = .ok (.iconst 1, 1) := by decide +kernel
theorem dX7_isEnemyOf_20 : decode cX7_isEnemyOf 20 = .ok (.goto 4, 3) := by decide +kernel
theorem dX7_isEnemyOf_23 : decode cX7_isEnemyOf 23 = .ok (.iconst 0, 1) := by decide +kernel
theorem dX7_isEnemyOf_24 : decode cX7_isEnemyOf 24 = .ok (.ireturn, 1) := by decide +kernel
theorem dX2_lossOf_0 : decode cX2_lossOf 0 = .ok (.iconst 0, 1) := by decide +kernel
theorem dX2_lossOf_1 : decode cX2_lossOf 1 = .ok (.istore_n 2, 1) := by decide +kernel
theorem dX2_lossOf_2 : decode cX2_lossOf 2 = .ok (.iconst 0, 1) := by decide +kernel
theorem dX2_lossOf_3 : decode cX2_lossOf 3 = .ok (.istore_n 3, 1) := by decide +kernel
theorem dX2_lossOf_4 : decode cX2_lossOf 4 = .ok (.iload_n 3, 1) := by decide +kernel
theorem dX2_lossOf_5 : decode cX2_lossOf 5 = .ok (.iconst 4, 1) := by decide +kernel
theorem dX2_lossOf_6 : decode cX2_lossOf 6 = .ok (.if_icmp .ge 90, 3) := by decide +kernel
theorem dX2_lossOf_9 : decode cX2_lossOf 9 = .ok (.aload_n 1, 1) := by decide +kernel
theorem dX2_lossOf_10 : decode cX2_lossOf 10 = .ok (.getfield 79, 3) := by decide +kernel
theorem dX2_lossOf_13 : decode cX2_lossOf 13 = .ok (.iload_n 3, 1) := by decide +kernel
theorem dX2_lossOf_14 : decode cX2_lossOf 14 = .ok (.invokestatic 111, 3) := by decide +kernel
theorem dX2_lossOf_17 : decode cX2_lossOf 17 = .ok (.istore 4, 2) := by decide +kernel
theorem dX2_lossOf_19 : decode cX2_lossOf 19 = .ok (.iload 4, 2) := by decide +kernel
theorem dX2_lossOf_21 : decode cX2_lossOf 21 = .ok (.iconst (-1), 1) := by decide +kernel
theorem dX2_lossOf_22 : decode cX2_lossOf 22 = .ok (.if_icmp .ne 7, 3) := by decide +kernel
theorem dX2_lossOf_25 : decode cX2_lossOf 25 = .ok (.iconst (-1), 1) := by decide +kernel
theorem dX2_lossOf_26 : decode cX2_lossOf 26 = .ok (.goto 9, 3) := by decide +kernel
theorem dX2_lossOf_29 : decode cX2_lossOf 29 = .ok (.aload_n 0, 1) := by decide +kernel
theorem dX2_lossOf_30 : decode cX2_lossOf 30 = .ok (.iload 4, 2) := by decide +kernel
theorem dX2_lossOf_32 : decode cX2_lossOf 32 = .ok (.invokevirtual 121, 3) := by decide +kernel
theorem dX2_lossOf_35 : decode cX2_lossOf 35 = .ok (.istore 5, 2) := by decide +kernel
theorem dX2_lossOf_37 : decode cX2_lossOf 37 = .ok (.iload 5, 2) := by decide +kernel
theorem dX2_lossOf_39 : decode cX2_lossOf 39 = .ok (.iconst (-1), 1) := by decide +kernel
theorem dX2_lossOf_40 : decode cX2_lossOf 40 = .ok (.if_icmp .eq 50, 3) := by decide +kernel
theorem dX2_lossOf_43 : decode cX2_lossOf 43 = .ok (.aload_n 0, 1) := by decide +kernel
theorem dX2_lossOf_44 : decode cX2_lossOf 44 = .ok (.getfield 37, 3) := by decide +kernel
theorem dX2_lossOf_47 : decode cX2_lossOf 47 = .ok (.iload 5, 2) := by decide +kernel
theorem dX2_lossOf_49 : decode cX2_lossOf 49 = .ok (.aaload, 1) := by decide +kernel
theorem dX2_lossOf_50 : decode cX2_lossOf 50 = .ok (.aload_n 1, 1) := by decide +kernel
theorem dX2_lossOf_51 : decode cX2_lossOf 51 = .ok (.invokevirtual 138, 3) := by decide +kernel
theorem dX2_lossOf_54 : decode cX2_lossOf 54 = .ok (.ifCond .eq 36, 3) := by decide +kernel
theorem dX2_lossOf_57 : decode cX2_lossOf 57 = .ok (.iload_n 2, 1) := by decide +kernel
theorem dX2_lossOf_58 : decode cX2_lossOf 58 = .ok (.aload_n 0, 1) := by decide +kernel
theorem dX2_lossOf_59 : decode cX2_lossOf 59 = .ok (.getfield 96, 3) := by decide +kernel
theorem dX2_lossOf_62 : decode cX2_lossOf 62 = .ok (.getfield 142, 3) := by decide +kernel
theorem dX2_lossOf_65 : decode cX2_lossOf 65 = .ok (.iload 4, 2) := by decide +kernel
theorem dX2_lossOf_67 : decode cX2_lossOf 67 = .ok (.iaload, 1) := by decide +kernel
theorem dX2_lossOf_68 : decode cX2_lossOf 68 = .ok (.aload_n 0, 1) := by decide +kernel
theorem dX2_lossOf_69 : decode cX2_lossOf 69 = .ok (.getfield 96, 3) := by decide +kernel
theorem dX2_lossOf_72 : decode cX2_lossOf 72 = .ok (.getfield 142, 3) := by decide +kernel
theorem dX2_lossOf_75 : decode cX2_lossOf 75 = .ok (.aload_n 1, 1) := by decide +kernel
theorem dX2_lossOf_76 : decode cX2_lossOf 76 = .ok (.getfield 79, 3) := by decide +kernel
theorem dX2_lossOf_79 : decode cX2_lossOf 79 = .ok (.iaload, 1) := by decide +kernel
theorem dX2_lossOf_80 : decode cX2_lossOf 80 = .ok (.if_icmp .le 7, 3) := by decide +kernel
theorem dX2_lossOf_83 : decode cX2_lossOf 83 = .ok (.iconst 2, 1) := by decide +kernel
theorem dX2_lossOf_84 : decode cX2_lossOf 84 = .ok (.goto 4, 3) := by decide +kernel
theorem dX2_lossOf_87 : decode cX2_lossOf 87 = .ok (.iconst 1, 1) := by decide +kernel
theorem dX2_lossOf_88 : decode cX2_lossOf 88 = .ok (.iadd, 1) := by decide +kernel
theorem dX2_lossOf_89 : decode cX2_lossOf 89 = .ok (.istore_n 2, 1) := by decide +kernel
theorem dX2_lossOf_90 : decode cX2_lossOf 90 = .ok (.iinc 3 1, 3) := by decide +kernel
theorem dX2_lossOf_93 : decode cX2_lossOf 93 = .ok (.goto (-89), 3) := by decide +kernel
theorem dX2_lossOf_96 : decode cX2_lossOf 96 = .ok (.iload_n 2, 1) := by decide +kernel
theorem dX2_lossOf_97 : decode cX2_lossOf 97 = .ok (.aload_n 1, 1) := by decide +kernel
theorem dX2_lossOf_98 : decode cX2_lossOf 98 = .ok (.getfield 132, 3) := by decide +kernel
theorem dX2_lossOf_101 : decode cX2_lossOf 101 = .ok (.invokestatic 145, 3) := by decide +kernel
theorem dX2_lossOf_104 : decode cX2_lossOf 104 = .ok (.ireturn, 1) := by decide +kernel
theorem dX2_fight_0 : decode cX2_fight 0 = .ok (.iconst 0, 1) := by decide +kernel
theorem dX2_fight_1 : decode cX2_fight 1 = .ok (.istore_n 1, 1) := by decide +kernel
theorem dX2_fight_2 : decode cX2_fight 2 = .ok (.iload_n 1, 1) := by decide +kernel
theorem dX2_fight_3 : decode cX2_fight 3 = .ok (.aload_n 0, 1) := by decide +kernel
theorem dX2_fight_4 : decode cX2_fight 4 = .ok (.getfield 34, 3) := by decide +kernel
theorem dX2_fight_7 : decode cX2_fight 7 = .ok (.if_icmp .ge 28, 3) := by decide +kernel
theorem dX2_fight_10 : decode cX2_fight 10 = .ok (.aload_n 0, 1) := by decide +kernel
theorem dX2_fight_11 : decode cX2_fight 11 = .ok (.getfield 37, 3) := by decide +kernel
theorem dX2_fight_14 : decode cX2_fight 14 = .ok (.iload_n 1, 1) := by decide +kernel
theorem dX2_fight_15 : decode cX2_fight 15 = .ok (.aaload, 1) := by decide +kernel
theorem dX2_fight_16 : decode cX2_fight 16 = .ok (.aload_n 0, 1) := by decide +kernel
theorem dX2_fight_17 : decode cX2_fight 17 = .ok (.aload_n 0, 1) := by decide +kernel
theorem dX2_fight_18 : decode cX2_fight 18 = .ok (.getfield 37, 3) := by decide +kernel
theorem dX2_fight_21 : decode cX2_fight 21 = .ok (.iload_n 1, 1) := by decide +kernel
theorem dX2_fight_22 : decode cX2_fight 22 = .ok (.aaload, 1) := by decide +kernel
theorem dX2_fight_23 : decode cX2_fight 23 = .ok (.invokestatic 125, 3) := by decide +kernel
theorem dX2_fight_26 : decode cX2_fight 26 = .ok (.putfield 129, 3) := by decide +kernel
theorem dX2_fight_29 : decode cX2_fight 29 = .ok (.iinc 1 1, 3) := by decide +kernel
theorem dX2_fight_32 : decode cX2_fight 32 = .ok (.goto (-30), 3) := by decide +kernel
theorem dX2_fight_35 : decode cX2_fight 35 = .ok (.iconst 0, 1) := by decide +kernel
theorem dX2_fight_36 : decode cX2_fight 36 = .ok (.istore_n 1, 1) := by decide +kernel
theorem dX2_fight_37 : decode cX2_fight 37 = .ok (.iload_n 1, 1) := by decide +kernel
theorem dX2_fight_38 : decode cX2_fight 38 = .ok (.aload_n 0, 1) := by decide +kernel
theorem dX2_fight_39 : decode cX2_fight 39 = .ok (.getfield 34, 3) := by decide +kernel
theorem dX2_fight_42 : decode cX2_fight 42 = .ok (.if_icmp .ge 57, 3) := by decide +kernel
theorem dX2_fight_45 : decode cX2_fight 45 = .ok (.aload_n 0, 1) := by decide +kernel
theorem dX2_fight_46 : decode cX2_fight 46 = .ok (.getfield 37, 3) := by decide +kernel
theorem dX2_fight_49 : decode cX2_fight 49 = .ok (.iload_n 1, 1) := by decide +kernel
theorem dX2_fight_50 : decode cX2_fight 50 = .ok (.aaload, 1) := by decide +kernel
theorem dX2_fight_51 : decode cX2_fight 51 = .ok (.astore_n 2, 1) := by decide +kernel
theorem dX2_fight_52 : decode cX2_fight 52 = .ok (.aload_n 2, 1) := by decide +kernel
theorem dX2_fight_53 : decode cX2_fight 53 = .ok (.dup, 1) := by decide +kernel
theorem dX2_fight_54 : decode cX2_fight 54 = .ok (.getfield 132, 3) := by decide +kernel
theorem dX2_fight_57 : decode cX2_fight 57 = .ok (.aload_n 2, 1) := by decide +kernel
theorem dX2_fight_58 : decode cX2_fight 58 = .ok (.getfield 129, 3) := by decide +kernel
theorem dX2_fight_61 : decode cX2_fight 61 = .ok (.isub, 1) := by decide +kernel
theorem dX2_fight_62 : decode cX2_fight 62 = .ok (.putfield 132, 3) := by decide +kernel
theorem dX2_fight_65 : decode cX2_fight 65 = .ok (.aload_n 0, 1) := by decide +kernel
theorem dX2_fight_66 : decode cX2_fight 66 = .ok (.getfield 135, 3) := by decide +kernel
theorem dX2_fight_69 : decode cX2_fight 69 = .ok (.aload_n 2, 1) := by decide +kernel
theorem dX2_fight_70 : decode cX2_fight 70 = .ok (.getfield 108, 3) := by decide +kernel
theorem dX2_fight_73 : decode cX2_fight 73 = .ok (.dup2, 1) := by decide +kernel
theorem dX2_fight_74 : decode cX2_fight 74 = .ok (.iaload, 1) := by decide +kernel
theorem dX2_fight_75 : decode cX2_fight 75 = .ok (.aload_n 2, 1) := by decide +kernel
theorem dX2_fight_76 : decode cX2_fight 76 = .ok (.getfield 129, 3) := by decide +kernel
theorem dX2_fight_79 : decode cX2_fight 79 = .ok (.iadd, 1) := by decide +kernel
theorem dX2_fight_80 : decode cX2_fight 80 = .ok (.iastore, 1) := by decide +kernel
theorem dX2_fight_81 : decode cX2_fight 81 = .ok (.aload_n 2, 1) := by decide +kernel
theorem dX2_fight_82 : decode cX2_fight 82 = .ok (.getfield 132, 3) := by decide +kernel
theorem dX2_fight_85 : decode cX2_fight 85 = .ok (.ifCond .ne 8, 3) := by decide +kernel
theorem dX2_fight_88 : decode cX2_fight 88 = .ok (.aload_n 2, 1) := by decide +kernel
theorem dX2_fight_89 : decode cX2_fight 89 = .ok (.iconst 2, 1) := by decide +kernel
theorem dX2_fight_90 : decode cX2_fight 90 = .ok (.putfield 60, 3) := by decide +kernel
theorem dX2_fight_93 : decode cX2_fight 93 = .ok (.iinc 1 1, 3) := by decide +kernel
theorem dX2_fight_96 : decode cX2_fight 96 = .ok (.goto (-59), 3) := by decide +kernel
theorem dX2_fight_99 : decode cX2_fight 99 = .ok (.return_, 1) := by decide +kernel
theorem dX2_seesEnemy_0 : decode cX2_seesEnemy 0 = .ok (.iconst 0, 1) := by decide +kernel
theorem dX2_seesEnemy_1 : decode cX2_seesEnemy 1 = .ok (.istore_n 2, 1) := by decide +kernel
theorem dX2_seesEnemy_2 : decode cX2_seesEnemy 2 = .ok (.iload_n 2, 1) := by decide +kernel
theorem dX2_seesEnemy_3 : decode cX2_seesEnemy 3 = .ok (.aload_n 0, 1) := by decide +kernel
theorem dX2_seesEnemy_4 : decode cX2_seesEnemy 4 = .ok (.getfield 34, 3) := by decide +kernel
theorem dX2_seesEnemy_7 : decode cX2_seesEnemy 7 = .ok (.if_icmp .ge 44, 3) := by decide +kernel
theorem dX2_seesEnemy_10 : decode cX2_seesEnemy 10 = .ok (.aload_n 0, 1) := by decide +kernel
theorem dX2_seesEnemy_11 : decode cX2_seesEnemy 11 = .ok (.getfield 37, 3) := by decide +kernel
theorem dX2_seesEnemy_14 : decode cX2_seesEnemy 14 = .ok (.iload_n 2, 1) := by decide +kernel
theorem dX2_seesEnemy_15 : decode cX2_seesEnemy 15 = .ok (.aaload, 1) := by decide +kernel
theorem dX2_seesEnemy_16 : decode cX2_seesEnemy 16 = .ok (.astore_n 3, 1) := by decide +kernel
theorem dX2_seesEnemy_17 : decode cX2_seesEnemy 17 = .ok (.aload_n 3, 1) := by decide +kernel
theorem dX2_seesEnemy_18 : decode cX2_seesEnemy 18 = .ok (.aload_n 1, 1) := by decide +kernel
theorem dX2_seesEnemy_19 : decode cX2_seesEnemy 19 = .ok (.invokevirtual 138, 3) := by decide +kernel
theorem dX2_seesEnemy_22 : decode cX2_seesEnemy 22 = .ok (.ifCond .eq 23, 3) := by decide +kernel
theorem dX2_seesEnemy_25 : decode cX2_seesEnemy 25 = .ok (.aload_n 0, 1) := by decide +kernel
theorem dX2_seesEnemy_26 : decode cX2_seesEnemy 26 = .ok (.getfield 96, 3) := by decide +kernel
theorem dX2_seesEnemy_29 : decode cX2_seesEnemy 29 = .ok (.aload_n 1, 1) := by decide +kernel
theorem dX2_seesEnemy_30 : decode cX2_seesEnemy 30 = .ok (.getfield 79, 3) := by decide +kernel
theorem dX2_seesEnemy_33 : decode cX2_seesEnemy 33 = .ok (.aload_n 3, 1) := by decide +kernel
theorem dX2_seesEnemy_34 : decode cX2_seesEnemy 34 = .ok (.getfield 79, 3) := by decide +kernel
theorem dX2_seesEnemy_37 : decode cX2_seesEnemy 37 = .ok (.invokevirtual 157, 3) := by decide +kernel
theorem dX2_seesEnemy_40 : decode cX2_seesEnemy 40 = .ok (.ifCond .eq 5, 3) := by decide +kernel
theorem dX2_seesEnemy_43 : decode cX2_seesEnemy 43 = .ok (.iconst 1, 1) := by decide +kernel
theorem dX2_seesEnemy_44 : decode cX2_seesEnemy 44 = .ok (.ireturn, 1) := by decide +kernel
theorem dX2_seesEnemy_45 : decode cX2_seesEnemy 45 = .ok (.iinc 2 1, 3) := by decide +kernel
theorem dX2_seesEnemy_48 : decode cX2_seesEnemy 48 = .ok (.goto (-46), 3) := by decide +kernel
theorem dX2_seesEnemy_51 : decode cX2_seesEnemy 51 = .ok (.iconst 0, 1) := by decide +kernel
theorem dX2_seesEnemy_52 : decode cX2_seesEnemy 52 = .ok (.ireturn, 1) := by decide +kernel
theorem dX2_steadyOrRout_0 : decode cX2_steadyOrRout 0 = .ok (.aload_n 1, 1) := by decide +kernel
theorem dX2_steadyOrRout_1 : decode cX2_steadyOrRout 1 = .ok (.getfield 60, 3) := by decide +kernel
theorem dX2_steadyOrRout_4 : decode cX2_steadyOrRout 4 = .ok (.ifCond .ne 31, 3) := by decide +kernel
theorem dX2_steadyOrRout_7 : decode cX2_steadyOrRout 7 = .ok (.aload_n 1, 1) := by decide +kernel
theorem dX2_steadyOrRout_8 : decode cX2_steadyOrRout 8 = .ok (.getfield 129, 3) := by decide +kernel
theorem dX2_steadyOrRout_11 : decode cX2_steadyOrRout 11 = .ok (.ifCond .le 24, 3) := by decide +kernel
theorem dX2_steadyOrRout_14 : decode cX2_steadyOrRout 14 = .ok (.iconst 2, 1) := by decide +kernel
theorem dX2_steadyOrRout_15 : decode cX2_steadyOrRout 15 = .ok (.aload_n 1, 1) := by decide +kernel
theorem dX2_steadyOrRout_16 : decode cX2_steadyOrRout 16 = .ok (.getfield 132, 3) := by decide +kernel
theorem dX2_steadyOrRout_19 : decode cX2_steadyOrRout 19 = .ok (.imul, 1) := by decide +kernel
theorem dX2_steadyOrRout_20 : decode cX2_steadyOrRout 20 = .ok (.aload_n 1, 1) := by decide +kernel
theorem dX2_steadyOrRout_21 : decode cX2_steadyOrRout 21 = .ok (.getfield 150, 3) := by decide +kernel
theorem dX2_steadyOrRout_24 : decode cX2_steadyOrRout 24 = .ok (.if_icmp .gt 11, 3) := by decide +kernel
theorem dX2_steadyOrRout_27 : decode cX2_steadyOrRout 27 = .ok (.aload_n 1, 1) := by decide +kernel
theorem dX2_steadyOrRout_28 : decode cX2_steadyOrRout 28 = .ok (.iconst 1, 1) := by decide +kernel
theorem dX2_steadyOrRout_29 : decode cX2_steadyOrRout 29 = .ok (.putfield 60, 3) := by decide +kernel
theorem dX2_steadyOrRout_32 : decode cX2_steadyOrRout 32 = .ok (.goto 39, 3) := by decide +kernel
theorem dX2_steadyOrRout_35 : decode cX2_steadyOrRout 35 = .ok (.aload_n 1, 1) := by decide +kernel
theorem dX2_steadyOrRout_36 : decode cX2_steadyOrRout 36 = .ok (.getfield 60, 3) := by decide +kernel
theorem dX2_steadyOrRout_39 : decode cX2_steadyOrRout 39 = .ok (.iconst 1, 1) := by decide +kernel
theorem dX2_steadyOrRout_40 : decode cX2_steadyOrRout 40 = .ok (.if_icmp .ne 31, 3) := by decide +kernel
theorem dX2_steadyOrRout_43 : decode cX2_steadyOrRout 43 = .ok (.aload_n 1, 1) := by decide +kernel
theorem dX2_steadyOrRout_44 : decode cX2_steadyOrRout 44 = .ok (.getfield 129, 3) := by decide +kernel
theorem dX2_steadyOrRout_47 : decode cX2_steadyOrRout 47 = .ok (.ifCond .ne 24, 3) := by decide +kernel
theorem dX2_steadyOrRout_50 : decode cX2_steadyOrRout 50 = .ok (.aload_n 0, 1) := by decide +kernel
theorem dX2_steadyOrRout_51 : decode cX2_steadyOrRout 51 = .ok (.aload_n 1, 1) := by decide +kernel
theorem dX2_steadyOrRout_52 : decode cX2_steadyOrRout 52 = .ok (.invokestatic 153, 3) := by decide +kernel
theorem dX2_steadyOrRout_55 : decode cX2_steadyOrRout 55 = .ok (.ifCond .ne 16, 3) := by decide +kernel
theorem dX2_steadyOrRout_58 : decode cX2_steadyOrRout 58 = .ok (.aload_n 1, 1) := by decide +kernel
theorem dX2_steadyOrRout_59 : decode cX2_steadyOrRout 59 = .ok (.iconst 0, 1) := by decide +kernel
theorem dX2_steadyOrRout_60 : decode cX2_steadyOrRout 60 = .ok (.putfield 60, 3) := by decide +kernel
theorem dX2_steadyOrRout_63 : decode cX2_steadyOrRout 63 = .ok (.aload_n 1, 1) := by decide +kernel
theorem dX2_steadyOrRout_64 : decode cX2_steadyOrRout 64 = .ok (.aload_n 1, 1) := by decide +kernel
theorem dX2_steadyOrRout_65 : decode cX2_steadyOrRout 65 = .ok (.getfield 79, 3) := by decide +kernel
theorem dX2_steadyOrRout_68 : decode cX2_steadyOrRout 68 = .ok (.putfield 68, 3) := by decide +kernel
theorem dX2_steadyOrRout_71 : decode cX2_steadyOrRout 71 = .ok (.return_, 1) := by decide +kernel
theorem dX2_play_0 : decode cX2_play 0 = .ok (.iconst 0, 1) := by decide +kernel
theorem dX2_play_1 : decode cX2_play 1 = .ok (.istore_n 3, 1) := by decide +kernel
theorem dX2_play_2 : decode cX2_play 2 = .ok (.iload_n 3, 1) := by decide +kernel
theorem dX2_play_3 : decode cX2_play 3 = .ok (.iload_n 2, 1) := by decide +kernel
theorem dX2_play_4 : decode cX2_play 4 = .ok (.if_icmp .ge 61, 3) := by decide +kernel
theorem dX2_play_7 : decode cX2_play 7 = .ok (.aload_n 1, 1) := by decide +kernel
theorem dX2_play_8 : decode cX2_play 8 = .ok (.dup, 1) := by decide +kernel
theorem dX2_play_9 : decode cX2_play 9 = .ok (.getfield 18, 3) := by decide +kernel
theorem dX2_play_12 : decode cX2_play 12 = .ok (.iconst 1, 1) := by decide +kernel
theorem dX2_play_13 : decode cX2_play 13 = .ok (.iadd, 1) := by decide +kernel
theorem dX2_play_14 : decode cX2_play 14 = .ok (.putfield 18, 3) := by decide +kernel
theorem dX2_play_17 : decode cX2_play 17 = .ok (.aload_n 1, 1) := by decide +kernel
theorem dX2_play_18 : decode cX2_play 18 = .ok (.invokestatic 24, 3) := by decide +kernel
theorem dX2_play_21 : decode cX2_play 21 = .ok (.aload_n 0, 1) := by decide +kernel
theorem dX2_play_22 : decode cX2_play 22 = .ok (.aload_n 1, 1) := by decide +kernel
theorem dX2_play_23 : decode cX2_play 23 = .ok (.invokevirtual 28, 3) := by decide +kernel
theorem dX2_play_26 : decode cX2_play 26 = .ok (.aload_n 1, 1) := by decide +kernel
theorem dX2_play_27 : decode cX2_play 27 = .ok (.invokestatic 31, 3) := by decide +kernel
theorem dX2_play_30 : decode cX2_play 30 = .ok (.iconst 0, 1) := by decide +kernel
theorem dX2_play_31 : decode cX2_play 31 = .ok (.istore 4, 2) := by decide +kernel
theorem dX2_play_33 : decode cX2_play 33 = .ok (.iload 4, 2) := by decide +kernel
theorem dX2_play_35 : decode cX2_play 35 = .ok (.aload_n 1, 1) := by decide +kernel
theorem dX2_play_36 : decode cX2_play 36 = .ok (.getfield 34, 3) := by decide +kernel
theorem dX2_play_39 : decode cX2_play 39 = .ok (.if_icmp .ge 20, 3) := by decide +kernel
theorem dX2_play_42 : decode cX2_play 42 = .ok (.aload_n 1, 1) := by decide +kernel
theorem dX2_play_43 : decode cX2_play 43 = .ok (.aload_n 1, 1) := by decide +kernel
theorem dX2_play_44 : decode cX2_play 44 = .ok (.getfield 37, 3) := by decide +kernel
theorem dX2_play_47 : decode cX2_play 47 = .ok (.iload 4, 2) := by decide +kernel
theorem dX2_play_49 : decode cX2_play 49 = .ok (.aaload, 1) := by decide +kernel
theorem dX2_play_50 : decode cX2_play 50 = .ok (.invokestatic 41, 3) := by decide +kernel
theorem dX2_play_53 : decode cX2_play 53 = .ok (.iinc 4 1, 3) := by decide +kernel
theorem dX2_play_56 : decode cX2_play 56 = .ok (.goto (-23), 3) := by decide +kernel
theorem dX2_play_59 : decode cX2_play 59 = .ok (.iinc 3 1, 3) := by decide +kernel
theorem dX2_play_62 : decode cX2_play 62 = .ok (.goto (-60), 3) := by decide +kernel
theorem dX2_play_65 : decode cX2_play 65 = .ok (.return_, 1) := by decide +kernel
theorem dX3_figure_0 : decode cX3_figure 0 = .ok (.iload_n 1, 1) := by decide +kernel
theorem dX3_figure_1 : decode cX3_figure 1 = .ok (.tableswitch 42 0 2 #[27, 32, 37], 27) := by decide +kernel
theorem dX3_figure_28 : decode cX3_figure 28 = .ok (.aload_n 0, 1) := by decide +kernel
theorem dX3_figure_29 : decode cX3_figure 29 = .ok (.getfield 7, 3) := by decide +kernel
theorem dX3_figure_32 : decode cX3_figure 32 = .ok (.ireturn, 1) := by decide +kernel
theorem dX3_figure_33 : decode cX3_figure 33 = .ok (.aload_n 0, 1) := by decide +kernel
theorem dX3_figure_34 : decode cX3_figure 34 = .ok (.getfield 13, 3) := by decide +kernel
theorem dX3_figure_37 : decode cX3_figure 37 = .ok (.ireturn, 1) := by decide +kernel
theorem dX3_figure_38 : decode cX3_figure 38 = .ok (.aload_n 0, 1) := by decide +kernel
theorem dX3_figure_39 : decode cX3_figure 39 = .ok (.getfield 16, 3) := by decide +kernel
theorem dX3_figure_42 : decode cX3_figure 42 = .ok (.ireturn, 1) := by decide +kernel
theorem dX3_figure_43 : decode cX3_figure 43 = .ok (.aload_n 0, 1) := by decide +kernel
theorem dX3_figure_44 : decode cX3_figure 44 = .ok (.getfield 19, 3) := by decide +kernel
theorem dX3_figure_47 : decode cX3_figure 47 = .ok (.ireturn, 1) := by decide +kernel
theorem dX5_level_0 : decode cX5_level 0 = .ok (.iconst 0, 1) := by decide +kernel
theorem dX5_level_1 : decode cX5_level 1 = .ok (.istore 4, 2) := by decide +kernel
theorem dX5_level_3 : decode cX5_level 3 = .ok (.iload_n 1, 1) := by decide +kernel
theorem dX5_level_4 : decode cX5_level 4 = .ok (.istore 5, 2) := by decide +kernel
theorem dX5_level_6 : decode cX5_level 6 = .ok (.iload 5, 2) := by decide +kernel
theorem dX5_level_8 : decode cX5_level 8 = .ok (.iload_n 2, 1) := by decide +kernel
theorem dX5_level_9 : decode cX5_level 9 = .ok (.if_icmp .gt 67, 3) := by decide +kernel
theorem dX5_level_12 : decode cX5_level 12 = .ok (.iload 5, 2) := by decide +kernel
theorem dX5_level_14 : decode cX5_level 14 = .ok (.bipush 12, 2) := by decide +kernel
theorem dX5_level_16 : decode cX5_level 16 = .ok (.irem, 1) := by decide +kernel
theorem dX5_level_17 : decode cX5_level 17 = .ok (.iload_n 1, 1) := by decide +kernel
theorem dX5_level_18 : decode cX5_level 18 = .ok (.bipush 12, 2) := by decide +kernel
theorem dX5_level_20 : decode cX5_level 20 = .ok (.irem, 1) := by decide +kernel
theorem dX5_level_21 : decode cX5_level 21 = .ok (.if_icmp .lt 19, 3) := by decide +kernel
theorem dX5_level_24 : decode cX5_level 24 = .ok (.iload 5, 2) := by decide +kernel
theorem dX5_level_26 : decode cX5_level 26 = .ok (.bipush 12, 2) := by decide +kernel
theorem dX5_level_28 : decode cX5_level 28 = .ok (.irem, 1) := by decide +kernel
theorem dX5_level_29 : decode cX5_level 29 = .ok (.iload_n 2, 1) := by decide +kernel
theorem dX5_level_30 : decode cX5_level 30 = .ok (.bipush 12, 2) := by decide +kernel
theorem dX5_level_32 : decode cX5_level 32 = .ok (.irem, 1) := by decide +kernel
theorem dX5_level_33 : decode cX5_level 33 = .ok (.if_icmp .gt 7, 3) := by decide +kernel
theorem dX5_level_36 : decode cX5_level 36 = .ok (.iconst 1, 1) := by decide +kernel
theorem dX5_level_37 : decode cX5_level 37 = .ok (.goto 4, 3) := by decide +kernel
theorem dX5_level_40 : decode cX5_level 40 = .ok (.iconst 0, 1) := by decide +kernel
theorem dX5_level_41 : decode cX5_level 41 = .ok (.istore 6, 2) := by decide +kernel
theorem dX5_level_43 : decode cX5_level 43 = .ok (.iload 6, 2) := by decide +kernel
theorem dX5_level_45 : decode cX5_level 45 = .ok (.ifCond .eq 25, 3) := by decide +kernel
theorem dX5_level_48 : decode cX5_level 48 = .ok (.aload_n 0, 1) := by decide +kernel
theorem dX5_level_49 : decode cX5_level 49 = .ok (.getfield 9, 3) := by decide +kernel
theorem dX5_level_52 : decode cX5_level 52 = .ok (.iload 5, 2) := by decide +kernel
theorem dX5_level_54 : decode cX5_level 54 = .ok (.iaload, 1) := by decide +kernel
theorem dX5_level_55 : decode cX5_level 55 = .ok (.iload_n 3, 1) := by decide +kernel
theorem dX5_level_56 : decode cX5_level 56 = .ok (.if_icmp .eq 14, 3) := by decide +kernel
theorem dX5_level_59 : decode cX5_level 59 = .ok (.aload_n 0, 1) := by decide +kernel
theorem dX5_level_60 : decode cX5_level 60 = .ok (.getfield 9, 3) := by decide +kernel
theorem dX5_level_63 : decode cX5_level 63 = .ok (.iload 5, 2) := by decide +kernel
theorem dX5_level_65 : decode cX5_level 65 = .ok (.iload_n 3, 1) := by decide +kernel
theorem dX5_level_66 : decode cX5_level 66 = .ok (.iastore, 1) := by decide +kernel
theorem dX5_level_67 : decode cX5_level 67 = .ok (.iinc 4 1, 3) := by decide +kernel
theorem dX5_level_70 : decode cX5_level 70 = .ok (.iinc 5 1, 3) := by decide +kernel
theorem dX5_level_73 : decode cX5_level 73 = .ok (.goto (-67), 3) := by decide +kernel
theorem dX5_level_76 : decode cX5_level 76 = .ok (.iload 4, 2) := by decide +kernel
theorem dX5_level_78 : decode cX5_level 78 = .ok (.ireturn, 1) := by decide +kernel
theorem dX5_exits_0 : decode cX5_exits 0 = .ok (.iconst 0, 1) := by decide +kernel
theorem dX5_exits_1 : decode cX5_exits 1 = .ok (.istore_n 2, 1) := by decide +kernel
theorem dX5_exits_2 : decode cX5_exits 2 = .ok (.iconst 0, 1) := by decide +kernel
theorem dX5_exits_3 : decode cX5_exits 3 = .ok (.istore_n 3, 1) := by decide +kernel
theorem dX5_exits_4 : decode cX5_exits 4 = .ok (.iload_n 3, 1) := by decide +kernel
theorem dX5_exits_5 : decode cX5_exits 5 = .ok (.iconst 4, 1) := by decide +kernel
theorem dX5_exits_6 : decode cX5_exits 6 = .ok (.if_icmp .ge 35, 3) := by decide +kernel
theorem dX5_exits_9 : decode cX5_exits 9 = .ok (.iload_n 1, 1) := by decide +kernel
theorem dX5_exits_10 : decode cX5_exits 10 = .ok (.iload_n 3, 1) := by decide +kernel
theorem dX5_exits_11 : decode cX5_exits 11 = .ok (.invokestatic 21, 3) := by decide +kernel
theorem dX5_exits_14 : decode cX5_exits 14 = .ok (.istore 4, 2) := by decide +kernel
theorem dX5_exits_16 : decode cX5_exits 16 = .ok (.iload 4, 2) := by decide +kernel
theorem dX5_exits_18 : decode cX5_exits 18 = .ok (.iconst (-1), 1) := by decide +kernel
theorem dX5_exits_19 : decode cX5_exits 19 = .ok (.if_icmp .eq 16, 3) := by decide +kernel
theorem dX5_exits_22 : decode cX5_exits 22 = .ok (.aload_n 0, 1) := by decide +kernel
theorem dX5_exits_23 : decode cX5_exits 23 = .ok (.iload_n 1, 1) := by decide +kernel
theorem dX5_exits_24 : decode cX5_exits 24 = .ok (.iload 4, 2) := by decide +kernel
theorem dX5_exits_26 : decode cX5_exits 26 = .ok (.invokevirtual 25, 3) := by decide +kernel
theorem dX5_exits_29 : decode cX5_exits 29 = .ok (.ifCond .eq 6, 3) := by decide +kernel
theorem dX5_exits_32 : decode cX5_exits 32 = .ok (.iinc 2 1, 3) := by decide +kernel
theorem dX5_exits_35 : decode cX5_exits 35 = .ok (.iinc 3 1, 3) := by decide +kernel
theorem dX5_exits_38 : decode cX5_exits 38 = .ok (.goto (-34), 3) := by decide +kernel
theorem dX5_exits_41 : decode cX5_exits 41 = .ok (.iload_n 2, 1) := by decide +kernel
theorem dX5_exits_42 : decode cX5_exits 42 = .ok (.ireturn, 1) := by decide +kernel
theorem dX5_cellsInSight_0 : decode cX5_cellsInSight 0 = .ok (.iconst 0, 1) := by decide +kernel
theorem dX5_cellsInSight_1 : decode cX5_cellsInSight 1 = .ok (.istore_n 2, 1) := by decide +kernel
theorem dX5_cellsInSight_2 : decode cX5_cellsInSight 2 = .ok (.iconst 0, 1) := by decide +kernel
theorem dX5_cellsInSight_3 : decode cX5_cellsInSight 3 = .ok (.istore_n 3, 1) := by decide +kernel
theorem dX5_cellsInSight_4 : decode cX5_cellsInSight 4 = .ok (.iload_n 3, 1) := by decide +kernel
theorem dX5_cellsInSight_5 : decode cX5_cellsInSight 5 = .ok (.bipush 96, 2) := by decide +kernel
theorem dX5_cellsInSight_7 : decode cX5_cellsInSight 7 = .ok (.if_icmp .ge 21, 3) := by decide +kernel
theorem dX5_cellsInSight_10 : decode cX5_cellsInSight 10 = .ok (.aload_n 0, 1) := by decide +kernel
theorem dX5_cellsInSight_11 : decode cX5_cellsInSight 11 = .ok (.iload_n 1, 1) := by decide +kernel
theorem dX5_cellsInSight_12 : decode cX5_cellsInSight 12 = .ok (.iload_n 3, 1) := by decide +kernel
theorem dX5_cellsInSight_13 : decode cX5_cellsInSight 13 = .ok (.invokevirtual 42, 3) := by decide +kernel
theorem dX5_cellsInSight_16 : decode cX5_cellsInSight 16 = .ok (.ifCond .eq 6, 3) := by decide +kernel
theorem dX5_cellsInSight_19 : decode cX5_cellsInSight 19 = .ok (.iinc 2 1, 3) := by decide +kernel
theorem dX5_cellsInSight_22 : decode cX5_cellsInSight 22 = .ok (.iinc 3 1, 3) := by decide +kernel
theorem dX5_cellsInSight_25 : decode cX5_cellsInSight 25 = .ok (.goto (-21), 3) := by decide +kernel
theorem dX5_cellsInSight_28 : decode cX5_cellsInSight 28 = .ok (.iload_n 2, 1) := by decide +kernel
theorem dX5_cellsInSight_29 : decode cX5_cellsInSight 29 = .ok (.ireturn, 1) := by decide +kernel
theorem dX6_init_0 : decode cX6_init 0 = .ok (.aload_n 0, 1) := by decide +kernel
theorem dX6_init_1 : decode cX6_init 1 = .ok (.invokespecial 3, 3) := by decide +kernel
theorem dX6_init_4 : decode cX6_init 4 = .ok (.aload_n 0, 1) := by decide +kernel
theorem dX6_init_5 : decode cX6_init 5 = .ok (.bipush 60, 2) := by decide +kernel
theorem dX6_init_7 : decode cX6_init 7 = .ok (.newarray .int, 2) := by decide +kernel
theorem dX6_init_9 : decode cX6_init 9 = .ok (.putfield 9, 3) := by decide +kernel
theorem dX6_init_12 : decode cX6_init 12 = .ok (.aload_n 0, 1) := by decide +kernel
theorem dX6_init_13 : decode cX6_init 13 = .ok (.bipush 10, 2) := by decide +kernel
theorem dX6_init_15 : decode cX6_init 15 = .ok (.newarray .int, 2) := by decide +kernel
theorem dX6_init_17 : decode cX6_init 17 = .ok (.putfield 15, 3) := by decide +kernel
theorem dX6_init_20 : decode cX6_init 20 = .ok (.aload_n 0, 1) := by decide +kernel
theorem dX6_init_21 : decode cX6_init 21 = .ok (.bipush 10, 2) := by decide +kernel
theorem dX6_init_23 : decode cX6_init 23 = .ok (.newarray .int, 2) := by decide +kernel
theorem dX6_init_25 : decode cX6_init 25 = .ok (.putfield 18, 3) := by decide +kernel
theorem dX6_init_28 : decode cX6_init 28 = .ok (.return_, 1) := by decide +kernel
theorem dX7_muster_0 : decode cX7_muster 0 = .ok (.aload_n 0, 1) := by decide +kernel
theorem dX7_muster_1 : decode cX7_muster 1 = .ok (.iload_n 1, 1) := by decide +kernel
theorem dX7_muster_2 : decode cX7_muster 2 = .ok (.putfield 9, 3) := by decide +kernel
theorem dX7_muster_5 : decode cX7_muster 5 = .ok (.aload_n 0, 1) := by decide +kernel
theorem dX7_muster_6 : decode cX7_muster 6 = .ok (.iload_n 2, 1) := by decide +kernel
theorem dX7_muster_7 : decode cX7_muster 7 = .ok (.putfield 15, 3) := by decide +kernel
theorem dX7_muster_10 : decode cX7_muster 10 = .ok (.aload_n 0, 1) := by decide +kernel
theorem dX7_muster_11 : decode cX7_muster 11 = .ok (.iload_n 3, 1) := by decide +kernel
theorem dX7_muster_12 : decode cX7_muster 12 = .ok (.putfield 18, 3) := by decide +kernel
theorem dX7_muster_15 : decode cX7_muster 15 = .ok (.aload_n 0, 1) := by decide +kernel
theorem dX7_muster_16 : decode cX7_muster 16 = .ok (.iload_n 2, 1) := by decide +kernel
theorem dX7_muster_17 : decode cX7_muster 17 = .ok (.putfield 21, 3) := by decide +kernel
theorem dX7_muster_20 : decode cX7_muster 20 = .ok (.aload_n 0, 1) := by decide +kernel
theorem dX7_muster_21 : decode cX7_muster 21 = .ok (.iconst 0, 1) := by decide +kernel
theorem dX7_muster_22 : decode cX7_muster 22 = .ok (.putfield 24, 3) := by decide +kernel
theorem dX7_muster_25 : decode cX7_muster 25 = .ok (.aload_n 0, 1) := by decide +kernel
theorem dX7_muster_26 : decode cX7_muster 26 = .ok (.iload_n 3, 1) := by decide +kernel
theorem dX7_muster_27 : decode cX7_muster 27 = .ok (.putfield 27, 3) := by decide +kernel
theorem dX7_muster_30 : decode cX7_muster 30 = .ok (.aload_n 0, 1) := by decide +kernel
theorem dX7_muster_31 : decode cX7_muster 31 = .ok (.iconst 0, 1) := by decide +kernel
theorem dX7_muster_32 : decode cX7_muster 32 = .ok (.putfield 30, 3) := by decide +kernel
theorem dX7_muster_35 : decode cX7_muster 35 = .ok (.aload_n 0, 1) := by decide +kernel
theorem dX7_muster_36 : decode cX7_muster 36 = .ok (.iconst 0, 1) := by decide +kernel
theorem dX7_muster_37 : decode cX7_muster 37 = .ok (.putfield 33, 3) := by decide +kernel
theorem dX7_muster_40 : decode cX7_muster 40 = .ok (.return_, 1) := by decide +kernel
theorem dX8_recruit_0 : decode cX8_recruit 0 = .ok (.aload_n 0, 1) := by decide +kernel
theorem dX8_recruit_1 : decode cX8_recruit 1 = .ok (.getfield 43, 3) := by decide +kernel
theorem dX8_recruit_4 : decode cX8_recruit 4 = .ok (.istore 4, 2) := by decide +kernel
theorem dX8_recruit_6 : decode cX8_recruit 6 = .ok (.aload_n 0, 1) := by decide +kernel
theorem dX8_recruit_7 : decode cX8_recruit 7 = .ok (.getfield 24, 3) := by decide +kernel
theorem dX8_recruit_10 : decode cX8_recruit 10 = .ok (.iload 4, 2) := by decide +kernel
theorem dX8_recruit_12 : decode cX8_recruit 12 = .ok (.aaload, 1) := by decide +kernel
theorem dX8_recruit_13 : decode cX8_recruit 13 = .ok (.iload_n 1, 1) := by decide +kernel
theorem dX8_recruit_14 : decode cX8_recruit 14 = .ok (.iload_n 2, 1) := by decide +kernel
theorem dX8_recruit_15 : decode cX8_recruit 15 = .ok (.iload_n 3, 1) := by decide +kernel
theorem dX8_recruit_16 : decode cX8_recruit 16 = .ok (.invokevirtual 65, 3) := by decide +kernel
theorem dX8_recruit_19 : decode cX8_recruit 19 = .ok (.aload_n 0, 1) := by decide +kernel
theorem dX8_recruit_20 : decode cX8_recruit 20 = .ok (.dup, 1) := by decide +kernel
theorem dX8_recruit_21 : decode cX8_recruit 21 = .ok (.getfield 43, 3) := by decide +kernel
theorem dX8_recruit_24 : decode cX8_recruit 24 = .ok (.iconst 1, 1) := by decide +kernel
theorem dX8_recruit_25 : decode cX8_recruit 25 = .ok (.iadd, 1) := by decide +kernel
theorem dX8_recruit_26 : decode cX8_recruit 26 = .ok (.putfield 43, 3) := by decide +kernel
theorem dX8_recruit_29 : decode cX8_recruit 29 = .ok (.iload 4, 2) := by decide +kernel
theorem dX8_recruit_31 : decode cX8_recruit 31 = .ok (.ireturn, 1) := by decide +kernel
theorem dX8_enqueue_0 : decode cX8_enqueue 0 = .ok (.aload_n 0, 1) := by decide +kernel
theorem dX8_enqueue_1 : decode cX8_enqueue 1 = .ok (.getfield 50, 3) := by decide +kernel
theorem dX8_enqueue_4 : decode cX8_enqueue 4 = .ok (.istore 4, 2) := by decide +kernel
theorem dX8_enqueue_6 : decode cX8_enqueue 6 = .ok (.iload 4, 2) := by decide +kernel
theorem dX8_enqueue_8 : decode cX8_enqueue 8 = .ok (.ifCond .le 44, 3) := by decide +kernel
theorem dX8_enqueue_11 : decode cX8_enqueue 11 = .ok (.aload_n 0, 1) := by decide +kernel
theorem dX8_enqueue_12 : decode cX8_enqueue 12 = .ok (.getfield 30, 3) := by decide +kernel
theorem dX8_enqueue_15 : decode cX8_enqueue 15 = .ok (.iload 4, 2) := by decide +kernel
theorem dX8_enqueue_17 : decode cX8_enqueue 17 = .ok (.iconst 1, 1) := by decide +kernel
theorem dX8_enqueue_18 : decode cX8_enqueue 18 = .ok (.isub, 1) := by decide +kernel
theorem dX8_enqueue_19 : decode cX8_enqueue 19 = .ok (.aaload, 1) := by decide +kernel
theorem dX8_enqueue_20 : decode cX8_enqueue 20 = .ok (.getfield 69, 3) := by decide +kernel
theorem dX8_enqueue_23 : decode cX8_enqueue 23 = .ok (.iload_n 3, 1) := by decide +kernel
theorem dX8_enqueue_24 : decode cX8_enqueue 24 = .ok (.if_icmp .le 28, 3) := by decide +kernel
theorem dX8_enqueue_27 : decode cX8_enqueue 27 = .ok (.aload_n 0, 1) := by decide +kernel
theorem dX8_enqueue_28 : decode cX8_enqueue 28 = .ok (.getfield 30, 3) := by decide +kernel
theorem dX8_enqueue_31 : decode cX8_enqueue 31 = .ok (.iload 4, 2) := by decide +kernel
theorem dX8_enqueue_33 : decode cX8_enqueue 33 = .ok (.aaload, 1) := by decide +kernel
theorem dX8_enqueue_34 : decode cX8_enqueue 34 = .ok (.aload_n 0, 1) := by decide +kernel
theorem dX8_enqueue_35 : decode cX8_enqueue 35 = .ok (.getfield 30, 3) := by decide +kernel
theorem dX8_enqueue_38 : decode cX8_enqueue 38 = .ok (.iload 4, 2) := by decide +kernel
theorem dX8_enqueue_40 : decode cX8_enqueue 40 = .ok (.iconst 1, 1) := by decide +kernel
theorem dX8_enqueue_41 : decode cX8_enqueue 41 = .ok (.isub, 1) := by decide +kernel
theorem dX8_enqueue_42 : decode cX8_enqueue 42 = .ok (.aaload, 1) := by decide +kernel
theorem dX8_enqueue_43 : decode cX8_enqueue 43 = .ok (.invokevirtual 53, 3) := by decide +kernel
theorem dX8_enqueue_46 : decode cX8_enqueue 46 = .ok (.iinc 4 (-1), 3) := by decide +kernel
theorem dX8_enqueue_49 : decode cX8_enqueue 49 = .ok (.goto (-43), 3) := by decide +kernel
theorem dX8_enqueue_52 : decode cX8_enqueue 52 = .ok (.aload_n 0, 1) := by decide +kernel
theorem dX8_enqueue_53 : decode cX8_enqueue 53 = .ok (.getfield 30, 3) := by decide +kernel
theorem dX8_enqueue_56 : decode cX8_enqueue 56 = .ok (.iload 4, 2) := by decide +kernel
theorem dX8_enqueue_58 : decode cX8_enqueue 58 = .ok (.aaload, 1) := by decide +kernel
theorem dX8_enqueue_59 : decode cX8_enqueue 59 = .ok (.aload_n 0, 1) := by decide +kernel
theorem dX8_enqueue_60 : decode cX8_enqueue 60 = .ok (.getfield 59, 3) := by decide +kernel
theorem dX8_enqueue_63 : decode cX8_enqueue 63 = .ok (.iload_n 1, 1) := by decide +kernel
theorem dX8_enqueue_64 : decode cX8_enqueue 64 = .ok (.iload_n 2, 1) := by decide +kernel
theorem dX8_enqueue_65 : decode cX8_enqueue 65 = .ok (.iload_n 3, 1) := by decide +kernel
theorem dX8_enqueue_66 : decode cX8_enqueue 66 = .ok (.invokevirtual 72, 3) := by decide +kernel
theorem dX8_enqueue_69 : decode cX8_enqueue 69 = .ok (.aload_n 0, 1) := by decide +kernel
theorem dX8_enqueue_70 : decode cX8_enqueue 70 = .ok (.dup, 1) := by decide +kernel
theorem dX8_enqueue_71 : decode cX8_enqueue 71 = .ok (.getfield 50, 3) := by decide +kernel
theorem dX8_enqueue_74 : decode cX8_enqueue 74 = .ok (.iconst 1, 1) := by decide +kernel
theorem dX8_enqueue_75 : decode cX8_enqueue 75 = .ok (.iadd, 1) := by decide +kernel
theorem dX8_enqueue_76 : decode cX8_enqueue 76 = .ok (.putfield 50, 3) := by decide +kernel
theorem dX8_enqueue_79 : decode cX8_enqueue 79 = .ok (.aload_n 0, 1) := by decide +kernel
theorem dX8_enqueue_80 : decode cX8_enqueue 80 = .ok (.dup, 1) := by decide +kernel
theorem dX8_enqueue_81 : decode cX8_enqueue 81 = .ok (.getfield 59, 3) := by decide +kernel
theorem dX8_enqueue_84 : decode cX8_enqueue 84 = .ok (.iconst 1, 1) := by decide +kernel
theorem dX8_enqueue_85 : decode cX8_enqueue 85 = .ok (.iadd, 1) := by decide +kernel
theorem dX8_enqueue_86 : decode cX8_enqueue 86 = .ok (.putfield 59, 3) := by decide +kernel
theorem dX8_enqueue_89 : decode cX8_enqueue 89 = .ok (.return_, 1) := by decide +kernel
theorem dX8_cellFigure_0 : decode cX8_cellFigure 0 = .ok (.iload_n 2, 1) := by decide +kernel
theorem dX8_cellFigure_1 : decode cX8_cellFigure 1 = .ok (.tableswitch 52 0 2 #[27, 37, 43], 27) := by decide +kernel
theorem dX8_cellFigure_28 : decode cX8_cellFigure 28 = .ok (.aload_n 0, 1) := by decide +kernel
theorem dX8_cellFigure_29 : decode cX8_cellFigure 29 = .ok (.getfield 12, 3) := by decide +kernel
theorem dX8_cellFigure_32 : decode cX8_cellFigure 32 = .ok (.getfield 82, 3) := by decide +kernel
theorem dX8_cellFigure_35 : decode cX8_cellFigure 35 = .ok (.iload_n 1, 1) := by decide +kernel
theorem dX8_cellFigure_36 : decode cX8_cellFigure 36 = .ok (.iaload, 1) := by decide +kernel
theorem dX8_cellFigure_37 : decode cX8_cellFigure 37 = .ok (.ireturn, 1) := by decide +kernel
theorem dX8_cellFigure_38 : decode cX8_cellFigure 38 = .ok (.aload_n 0, 1) := by decide +kernel
theorem dX8_cellFigure_39 : decode cX8_cellFigure 39 = .ok (.iload_n 1, 1) := by decide +kernel
theorem dX8_cellFigure_40 : decode cX8_cellFigure 40 = .ok (.invokevirtual 85, 3) := by decide +kernel
theorem dX8_cellFigure_43 : decode cX8_cellFigure 43 = .ok (.ireturn, 1) := by decide +kernel
theorem dX8_cellFigure_44 : decode cX8_cellFigure 44 = .ok (.aload_n 0, 1) := by decide +kernel
theorem dX8_cellFigure_45 : decode cX8_cellFigure 45 = .ok (.getfield 12, 3) := by decide +kernel
theorem dX8_cellFigure_48 : decode cX8_cellFigure 48 = .ok (.iload_n 1, 1) := by decide +kernel
theorem dX8_cellFigure_49 : decode cX8_cellFigure 49 = .ok (.invokevirtual 89, 3) := by decide +kernel
theorem dX8_cellFigure_52 : decode cX8_cellFigure 52 = .ok (.ireturn, 1) := by decide +kernel
theorem dX8_cellFigure_53 : decode cX8_cellFigure 53 = .ok (.aload_n 0, 1) := by decide +kernel
theorem dX8_cellFigure_54 : decode cX8_cellFigure 54 = .ok (.getfield 12, 3) := by decide +kernel
theorem dX8_cellFigure_57 : decode cX8_cellFigure 57 = .ok (.iload_n 1, 1) := by decide +kernel
theorem dX8_cellFigure_58 : decode cX8_cellFigure 58 = .ok (.invokevirtual 92, 3) := by decide +kernel
theorem dX8_cellFigure_61 : decode cX8_cellFigure 61 = .ok (.ireturn, 1) := by decide +kernel

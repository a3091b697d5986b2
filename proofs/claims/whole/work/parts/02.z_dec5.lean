theorem dX10_takesDigit_32 : decode cX10_takesDigit 32 = .ok (.iload_n 1, 1) := by decide +kernel
theorem dX10_takesDigit_33 : decode cX10_takesDigit 33 = .ok (.iadd, 1) := by decide +kernel
theorem dX10_takesDigit_34 : decode cX10_takesDigit 34 = .ok (.istore_n 3, 1) := by decide +kernel
theorem dX10_takesDigit_35 : decode cX10_takesDigit 35 = .ok (.iload_n 3, 1) := by decide +kernel
theorem dX10_takesDigit_36 : decode cX10_takesDigit 36 = .ok (.aload_n 0, 1) := by decide +kernel
theorem dX10_takesDigit_37 : decode cX10_takesDigit 37 = .ok (.getfield 130, 3) := by decide +kernel
theorem dX10_takesDigit_40 : decode cX10_takesDigit 40 = .ok (.iconst 2, 1) := by decide +kernel
theorem dX10_takesDigit_41 : decode cX10_takesDigit 41 = .ok (.if_icmp .ge 8, 3) := by decide +kernel
theorem dX10_takesDigit_44 : decode cX10_takesDigit 44 = .ok (.bipush 12, 2) := by decide +kernel
theorem dX10_takesDigit_46 : decode cX10_takesDigit 46 = .ok (.goto 5, 3) := by decide +kernel
theorem dX10_takesDigit_49 : decode cX10_takesDigit 49 = .ok (.bipush 8, 2) := by decide +kernel
theorem dX10_takesDigit_51 : decode cX10_takesDigit 51 = .ok (.if_icmp .ge 23, 3) := by decide +kernel
theorem dX10_takesDigit_54 : decode cX10_takesDigit 54 = .ok (.aload_n 0, 1) := by decide +kernel
theorem dX10_takesDigit_55 : decode cX10_takesDigit 55 = .ok (.getfield 133, 3) := by decide +kernel
theorem dX10_takesDigit_58 : decode cX10_takesDigit 58 = .ok (.ifCond .eq 12, 3) := by decide +kernel
theorem dX10_takesDigit_61 : decode cX10_takesDigit 61 = .ok (.aload_n 0, 1) := by decide +kernel
theorem dX10_takesDigit_62 : decode cX10_takesDigit 62 = .ok (.getfield 28, 3) := by decide +kernel
theorem dX10_takesDigit_65 : decode cX10_takesDigit 65 = .ok (.iload_n 2, 1) := by decide +kernel
theorem dX10_takesDigit_66 : decode cX10_takesDigit 66 = .ok (.iaload, 1) := by decide +kernel
theorem dX10_takesDigit_67 : decode cX10_takesDigit 67 = .ok (.ifCond .le 7, 3) := by decide +kernel
theorem dX10_takesDigit_70 : decode cX10_takesDigit 70 = .ok (.iconst 1, 1) := by decide +kernel
theorem dX10_takesDigit_71 : decode cX10_takesDigit 71 = .ok (.goto 4, 3) := by decide +kernel
theorem dX10_takesDigit_74 : decode cX10_takesDigit 74 = .ok (.iconst 0, 1) := by decide +kernel
theorem dX10_takesDigit_75 : decode cX10_takesDigit 75 = .ok (.istore 4, 2) := by decide +kernel
theorem dX10_takesDigit_77 : decode cX10_takesDigit 77 = .ok (.aload_n 0, 1) := by decide +kernel
theorem dX10_takesDigit_78 : decode cX10_takesDigit 78 = .ok (.getfield 28, 3) := by decide +kernel
theorem dX10_takesDigit_81 : decode cX10_takesDigit 81 = .ok (.iload_n 2, 1) := by decide +kernel
theorem dX10_takesDigit_82 : decode cX10_takesDigit 82 = .ok (.iload 4, 2) := by decide +kernel
theorem dX10_takesDigit_84 : decode cX10_takesDigit 84 = .ok (.ifCond .eq 7, 3) := by decide +kernel
theorem dX10_takesDigit_87 : decode cX10_takesDigit 87 = .ok (.iload_n 3, 1) := by decide +kernel
theorem dX10_takesDigit_88 : decode cX10_takesDigit 88 = .ok (.goto 9, 3) := by decide +kernel
theorem dX10_takesDigit_91 : decode cX10_takesDigit 91 = .ok (.aload_n 0, 1) := by decide +kernel
theorem dX10_takesDigit_92 : decode cX10_takesDigit 92 = .ok (.getfield 28, 3) := by decide +kernel
theorem dX10_takesDigit_95 : decode cX10_takesDigit 95 = .ok (.iload_n 2, 1) := by decide +kernel
theorem dX10_takesDigit_96 : decode cX10_takesDigit 96 = .ok (.iaload, 1) := by decide +kernel
theorem dX10_takesDigit_97 : decode cX10_takesDigit 97 = .ok (.iastore, 1) := by decide +kernel
theorem dX10_takesDigit_98 : decode cX10_takesDigit 98 = .ok (.aload_n 0, 1) := by decide +kernel
theorem dX10_takesDigit_99 : decode cX10_takesDigit 99 = .ok (.dup, 1) := by decide +kernel
theorem dX10_takesDigit_100 : decode cX10_takesDigit 100 = .ok (.getfield 133, 3) := by decide +kernel
theorem dX10_takesDigit_103 : decode cX10_takesDigit 103 = .ok (.iload 4, 2) := by decide +kernel
theorem dX10_takesDigit_105 : decode cX10_takesDigit 105 = .ok (.ifCond .eq 7, 3) := by decide +kernel
theorem dX10_takesDigit_108 : decode cX10_takesDigit 108 = .ok (.iconst 1, 1) := by decide +kernel
theorem dX10_takesDigit_109 : decode cX10_takesDigit 109 = .ok (.goto 4, 3) := by decide +kernel
theorem dX10_takesDigit_112 : decode cX10_takesDigit 112 = .ok (.iconst 0, 1) := by decide +kernel
theorem dX10_takesDigit_113 : decode cX10_takesDigit 113 = .ok (.iadd, 1) := by decide +kernel
theorem dX10_takesDigit_114 : decode cX10_takesDigit 114 = .ok (.putfield 133, 3) := by decide +kernel
theorem dX10_takesDigit_117 : decode cX10_takesDigit 117 = .ok (.iload 4, 2) := by decide +kernel
theorem dX10_takesDigit_119 : decode cX10_takesDigit 119 = .ok (.ireturn, 1) := by decide +kernel
theorem dX10_takes_0 : decode cX10_takes 0 = .ok (.iload_n 1, 1) := by decide +kernel
theorem dX10_takes_1 : decode cX10_takes 1 = .ok (.bipush 48, 2) := by decide +kernel
theorem dX10_takes_3 : decode cX10_takes 3 = .ok (.bipush 57, 2) := by decide +kernel
theorem dX10_takes_5 : decode cX10_takes 5 = .ok (.invokestatic 35, 3) := by decide +kernel
theorem dX10_takes_8 : decode cX10_takes 8 = .ok (.ifCond .eq 12, 3) := by decide +kernel
theorem dX10_takes_11 : decode cX10_takes 11 = .ok (.aload_n 0, 1) := by decide +kernel
theorem dX10_takes_12 : decode cX10_takes 12 = .ok (.iload_n 1, 1) := by decide +kernel
theorem dX10_takes_13 : decode cX10_takes 13 = .ok (.bipush 48, 2) := by decide +kernel
theorem dX10_takes_15 : decode cX10_takes 15 = .ok (.isub, 1) := by decide +kernel
theorem dX10_takes_16 : decode cX10_takes 16 = .ok (.invokevirtual 136, 3) := by decide +kernel
theorem dX10_takes_19 : decode cX10_takes 19 = .ok (.ireturn, 1) := by decide +kernel
theorem dX10_takes_20 : decode cX10_takes 20 = .ok (.aload_n 0, 1) := by decide +kernel
theorem dX10_takes_21 : decode cX10_takes 21 = .ok (.getfield 133, 3) := by decide +kernel
theorem dX10_takes_24 : decode cX10_takes 24 = .ok (.ifCond .le 38, 3) := by decide +kernel
theorem dX10_takes_27 : decode cX10_takes 27 = .ok (.iload_n 1, 1) := by decide +kernel
theorem dX10_takes_28 : decode cX10_takes 28 = .ok (.aload_n 0, 1) := by decide +kernel
theorem dX10_takes_29 : decode cX10_takes 29 = .ok (.getfield 130, 3) := by decide +kernel
theorem dX10_takes_32 : decode cX10_takes 32 = .ok (.ifCond .ne 8, 3) := by decide +kernel
theorem dX10_takes_35 : decode cX10_takes 35 = .ok (.bipush 62, 2) := by decide +kernel
theorem dX10_takes_37 : decode cX10_takes 37 = .ok (.goto 18, 3) := by decide +kernel
theorem dX10_takes_40 : decode cX10_takes 40 = .ok (.aload_n 0, 1) := by decide +kernel
theorem dX10_takes_41 : decode cX10_takes 41 = .ok (.getfield 130, 3) := by decide +kernel
theorem dX10_takes_44 : decode cX10_takes 44 = .ok (.iconst 1, 1) := by decide +kernel
theorem dX10_takes_45 : decode cX10_takes 45 = .ok (.if_icmp .ne 8, 3) := by decide +kernel
theorem dX10_takes_48 : decode cX10_takes 48 = .ok (.bipush 44, 2) := by decide +kernel
theorem dX10_takes_50 : decode cX10_takes 50 = .ok (.goto 5, 3) := by decide +kernel
theorem dX10_takes_53 : decode cX10_takes 53 = .ok (.bipush 59, 2) := by decide +kernel
theorem dX10_takes_55 : decode cX10_takes 55 = .ok (.if_icmp .ne 7, 3) := by decide +kernel
theorem dX10_takes_58 : decode cX10_takes 58 = .ok (.iconst 1, 1) := by decide +kernel
theorem dX10_takes_59 : decode cX10_takes 59 = .ok (.goto 4, 3) := by decide +kernel
theorem dX10_takes_62 : decode cX10_takes 62 = .ok (.iconst 0, 1) := by decide +kernel
theorem dX10_takes_63 : decode cX10_takes 63 = .ok (.istore_n 2, 1) := by decide +kernel
theorem dX10_takes_64 : decode cX10_takes 64 = .ok (.iload_n 2, 1) := by decide +kernel
theorem dX10_takes_65 : decode cX10_takes 65 = .ok (.ifCond .eq 42, 3) := by decide +kernel
theorem dX10_takes_68 : decode cX10_takes 68 = .ok (.aload_n 0, 1) := by decide +kernel
theorem dX10_takes_69 : decode cX10_takes 69 = .ok (.dup, 1) := by decide +kernel
theorem dX10_takes_70 : decode cX10_takes 70 = .ok (.getfield 127, 3) := by decide +kernel
theorem dX10_takes_73 : decode cX10_takes 73 = .ok (.aload_n 0, 1) := by decide +kernel
theorem dX10_takes_74 : decode cX10_takes 74 = .ok (.getfield 130, 3) := by decide +kernel
theorem dX10_takes_77 : decode cX10_takes 77 = .ok (.iconst 2, 1) := by decide +kernel
theorem dX10_takes_78 : decode cX10_takes 78 = .ok (.if_icmp .ne 7, 3) := by decide +kernel
theorem dX10_takes_81 : decode cX10_takes 81 = .ok (.iconst 1, 1) := by decide +kernel
theorem dX10_takes_82 : decode cX10_takes 82 = .ok (.goto 4, 3) := by decide +kernel
theorem dX10_takes_85 : decode cX10_takes 85 = .ok (.iconst 0, 1) := by decide +kernel
theorem dX10_takes_86 : decode cX10_takes 86 = .ok (.iadd, 1) := by decide +kernel
theorem dX10_takes_87 : decode cX10_takes 87 = .ok (.putfield 127, 3) := by decide +kernel
theorem dX10_takes_90 : decode cX10_takes 90 = .ok (.aload_n 0, 1) := by decide +kernel
theorem dX10_takes_91 : decode cX10_takes 91 = .ok (.aload_n 0, 1) := by decide +kernel
theorem dX10_takes_92 : decode cX10_takes 92 = .ok (.getfield 130, 3) := by decide +kernel
theorem dX10_takes_95 : decode cX10_takes 95 = .ok (.iconst 1, 1) := by decide +kernel
theorem dX10_takes_96 : decode cX10_takes 96 = .ok (.iadd, 1) := by decide +kernel
theorem dX10_takes_97 : decode cX10_takes 97 = .ok (.iconst 3, 1) := by decide +kernel
theorem dX10_takes_98 : decode cX10_takes 98 = .ok (.irem, 1) := by decide +kernel
theorem dX10_takes_99 : decode cX10_takes 99 = .ok (.putfield 130, 3) := by decide +kernel
theorem dX10_takes_102 : decode cX10_takes 102 = .ok (.aload_n 0, 1) := by decide +kernel
theorem dX10_takes_103 : decode cX10_takes 103 = .ok (.iconst 0, 1) := by decide +kernel
theorem dX10_takes_104 : decode cX10_takes 104 = .ok (.putfield 133, 3) := by decide +kernel
theorem dX10_takes_107 : decode cX10_takes 107 = .ok (.iload_n 2, 1) := by decide +kernel
theorem dX10_takes_108 : decode cX10_takes 108 = .ok (.ireturn, 1) := by decide +kernel
theorem dX10_readText_0 : decode cX10_readText 0 = .ok (.aload_n 0, 1) := by decide +kernel
theorem dX10_readText_1 : decode cX10_readText 1 = .ok (.iconst 0, 1) := by decide +kernel
theorem dX10_readText_2 : decode cX10_readText 2 = .ok (.putfield 130, 3) := by decide +kernel
theorem dX10_readText_5 : decode cX10_readText 5 = .ok (.aload_n 0, 1) := by decide +kernel
theorem dX10_readText_6 : decode cX10_readText 6 = .ok (.iconst 0, 1) := by decide +kernel
theorem dX10_readText_7 : decode cX10_readText 7 = .ok (.putfield 133, 3) := by decide +kernel
theorem dX10_readText_10 : decode cX10_readText 10 = .ok (.aload_n 0, 1) := by decide +kernel
theorem dX10_readText_11 : decode cX10_readText 11 = .ok (.iconst 0, 1) := by decide +kernel
theorem dX10_readText_12 : decode cX10_readText 12 = .ok (.putfield 127, 3) := by decide +kernel
theorem dX10_readText_15 : decode cX10_readText 15 = .ok (.iconst 0, 1) := by decide +kernel
theorem dX10_readText_16 : decode cX10_readText 16 = .ok (.istore_n 1, 1) := by decide +kernel
theorem dX10_readText_17 : decode cX10_readText 17 = .ok (.iload_n 1, 1) := by decide +kernel
theorem dX10_readText_18 : decode cX10_readText 18 = .ok (.aload_n 0, 1) := by decide +kernel
theorem dX10_readText_19 : decode cX10_readText 19 = .ok (.getfield 124, 3) := by decide +kernel
theorem dX10_readText_22 : decode cX10_readText 22 = .ok (.if_icmp .ge 22, 3) := by decide +kernel
theorem dX10_readText_25 : decode cX10_readText 25 = .ok (.aload_n 0, 1) := by decide +kernel
theorem dX10_readText_26 : decode cX10_readText 26 = .ok (.aload_n 0, 1) := by decide +kernel
theorem dX10_readText_27 : decode cX10_readText 27 = .ok (.getfield 16, 3) := by decide +kernel
theorem dX10_readText_30 : decode cX10_readText 30 = .ok (.iload_n 1, 1) := by decide +kernel
theorem dX10_readText_31 : decode cX10_readText 31 = .ok (.iaload, 1) := by decide +kernel
theorem dX10_readText_32 : decode cX10_readText 32 = .ok (.invokevirtual 139, 3) := by decide +kernel
theorem dX10_readText_35 : decode cX10_readText 35 = .ok (.ifCond .eq 9, 3) := by decide +kernel
theorem dX10_readText_38 : decode cX10_readText 38 = .ok (.iinc 1 1, 3) := by decide +kernel
theorem dX10_readText_41 : decode cX10_readText 41 = .ok (.goto (-24), 3) := by decide +kernel
theorem dX10_readText_44 : decode cX10_readText 44 = .ok (.iload_n 1, 1) := by decide +kernel
theorem dX10_readText_45 : decode cX10_readText 45 = .ok (.ireturn, 1) := by decide +kernel
theorem dX10_firstError_0 : decode cX10_firstError 0 = .ok (.aload_n 0, 1) := by decide +kernel
theorem dX10_firstError_1 : decode cX10_firstError 1 = .ok (.iconst 0, 1) := by decide +kernel
theorem dX10_firstError_2 : decode cX10_firstError 2 = .ok (.putfield 31, 3) := by decide +kernel
theorem dX10_firstError_5 : decode cX10_firstError 5 = .ok (.aload_n 0, 1) := by decide +kernel
theorem dX10_firstError_6 : decode cX10_firstError 6 = .ok (.invokevirtual 142, 3) := by decide +kernel
theorem dX10_firstError_9 : decode cX10_firstError 9 = .ok (.ireturn, 1) := by decide +kernel
theorem dX10_load_0 : decode cX10_load 0 = .ok (.aload_n 0, 1) := by decide +kernel
theorem dX10_load_1 : decode cX10_load 1 = .ok (.invokevirtual 142, 3) := by decide +kernel
theorem dX10_load_4 : decode cX10_load 4 = .ok (.aload_n 0, 1) := by decide +kernel
theorem dX10_load_5 : decode cX10_load 5 = .ok (.getfield 124, 3) := by decide +kernel
theorem dX10_load_8 : decode cX10_load 8 = .ok (.if_icmp .ne 22, 3) := by decide +kernel
theorem dX10_load_11 : decode cX10_load 11 = .ok (.aload_n 0, 1) := by decide +kernel
theorem dX10_load_12 : decode cX10_load 12 = .ok (.getfield 130, 3) := by decide +kernel
theorem dX10_load_15 : decode cX10_load 15 = .ok (.iconst 2, 1) := by decide +kernel
theorem dX10_load_16 : decode cX10_load 16 = .ok (.if_icmp .ne 14, 3) := by decide +kernel
theorem dX10_load_19 : decode cX10_load 19 = .ok (.aload_n 0, 1) := by decide +kernel
theorem dX10_load_20 : decode cX10_load 20 = .ok (.getfield 133, 3) := by decide +kernel
theorem dX10_load_23 : decode cX10_load 23 = .ok (.ifCond .le 7, 3) := by decide +kernel
theorem dX10_load_26 : decode cX10_load 26 = .ok (.iconst 1, 1) := by decide +kernel
theorem dX10_load_27 : decode cX10_load 27 = .ok (.goto 4, 3) := by decide +kernel
theorem dX10_load_30 : decode cX10_load 30 = .ok (.iconst 0, 1) := by decide +kernel
theorem dX10_load_31 : decode cX10_load 31 = .ok (.istore_n 1, 1) := by decide +kernel
theorem dX10_load_32 : decode cX10_load 32 = .ok (.aload_n 0, 1) := by decide +kernel
theorem dX10_load_33 : decode cX10_load 33 = .ok (.iload_n 1, 1) := by decide +kernel
theorem dX10_load_34 : decode cX10_load 34 = .ok (.ifCond .eq 7, 3) := by decide +kernel
theorem dX10_load_37 : decode cX10_load 37 = .ok (.iconst 0, 1) := by decide +kernel
theorem dX10_load_38 : decode cX10_load 38 = .ok (.goto 4, 3) := by decide +kernel
theorem dX10_load_41 : decode cX10_load 41 = .ok (.iconst 1, 1) := by decide +kernel
theorem dX10_load_42 : decode cX10_load 42 = .ok (.putfield 31, 3) := by decide +kernel
theorem dX10_load_45 : decode cX10_load 45 = .ok (.aload_n 0, 1) := by decide +kernel
theorem dX10_load_46 : decode cX10_load 46 = .ok (.getfield 31, 3) := by decide +kernel
theorem dX10_load_49 : decode cX10_load 49 = .ok (.ifCond .le 5, 3) := by decide +kernel
theorem dX10_load_52 : decode cX10_load 52 = .ok (.iconst 0, 1) := by decide +kernel
theorem dX10_load_53 : decode cX10_load 53 = .ok (.ireturn, 1) := by decide +kernel
theorem dX10_load_54 : decode cX10_load 54 = .ok (.aload_n 0, 1) := by decide +kernel
theorem dX10_load_55 : decode cX10_load 55 = .ok (.invokevirtual 74, 3) := by decide +kernel
theorem dX10_load_58 : decode cX10_load 58 = .ok (.iconst 0, 1) := by decide +kernel
theorem dX10_load_59 : decode cX10_load 59 = .ok (.istore_n 2, 1) := by decide +kernel
theorem dX10_load_60 : decode cX10_load 60 = .ok (.iload_n 2, 1) := by decide +kernel
theorem dX10_load_61 : decode cX10_load 61 = .ok (.aload_n 0, 1) := by decide +kernel
theorem dX10_load_62 : decode cX10_load 62 = .ok (.getfield 127, 3) := by decide +kernel
theorem dX10_load_65 : decode cX10_load 65 = .ok (.if_icmp .gt 76, 3) := by decide +kernel
theorem dX10_load_68 : decode cX10_load 68 = .ok (.aload_n 0, 1) := by decide +kernel
theorem dX10_load_69 : decode cX10_load 69 = .ok (.aload_n 0, 1) := by decide +kernel
theorem dX10_load_70 : decode cX10_load 70 = .ok (.getfield 28, 3) := by decide +kernel
theorem dX10_load_73 : decode cX10_load 73 = .ok (.iconst 3, 1) := by decide +kernel
theorem dX10_load_74 : decode cX10_load 74 = .ok (.iload_n 2, 1) := by decide +kernel
theorem dX10_load_75 : decode cX10_load 75 = .ok (.imul, 1) := by decide +kernel
theorem dX10_load_76 : decode cX10_load 76 = .ok (.iaload, 1) := by decide +kernel
theorem dX10_load_77 : decode cX10_load 77 = .ok (.invokevirtual 90, 3) := by decide +kernel
theorem dX10_load_80 : decode cX10_load 80 = .ok (.ifCond .eq 61, 3) := by decide +kernel
theorem dX10_load_83 : decode cX10_load 83 = .ok (.aload_n 0, 1) := by decide +kernel
theorem dX10_load_84 : decode cX10_load 84 = .ok (.aload_n 0, 1) := by decide +kernel
theorem dX10_load_85 : decode cX10_load 85 = .ok (.getfield 28, 3) := by decide +kernel
theorem dX10_load_88 : decode cX10_load 88 = .ok (.iconst 3, 1) := by decide +kernel
theorem dX10_load_89 : decode cX10_load 89 = .ok (.iload_n 2, 1) := by decide +kernel
theorem dX10_load_90 : decode cX10_load 90 = .ok (.imul, 1) := by decide +kernel
theorem dX10_load_91 : decode cX10_load 91 = .ok (.iaload, 1) := by decide +kernel
theorem dX10_load_92 : decode cX10_load 92 = .ok (.invokevirtual 93, 3) := by decide +kernel
theorem dX10_load_95 : decode cX10_load 95 = .ok (.ifCond .ne 46, 3) := by decide +kernel
theorem dX10_load_98 : decode cX10_load 98 = .ok (.aload_n 0, 1) := by decide +kernel
theorem dX10_load_99 : decode cX10_load 99 = .ok (.aload_n 0, 1) := by decide +kernel
theorem dX10_load_100 : decode cX10_load 100 = .ok (.getfield 28, 3) := by decide +kernel
theorem dX10_load_103 : decode cX10_load 103 = .ok (.iconst 3, 1) := by decide +kernel
theorem dX10_load_104 : decode cX10_load 104 = .ok (.iload_n 2, 1) := by decide +kernel
theorem dX10_load_105 : decode cX10_load 105 = .ok (.imul, 1) := by decide +kernel
theorem dX10_load_106 : decode cX10_load 106 = .ok (.iaload, 1) := by decide +kernel
theorem dX10_load_107 : decode cX10_load 107 = .ok (.bipush 12, 2) := by decide +kernel
theorem dX10_load_109 : decode cX10_load 109 = .ok (.aload_n 0, 1) := by decide +kernel
theorem dX10_load_110 : decode cX10_load 110 = .ok (.getfield 28, 3) := by decide +kernel
theorem dX10_load_113 : decode cX10_load 113 = .ok (.iconst 3, 1) := by decide +kernel
theorem dX10_load_114 : decode cX10_load 114 = .ok (.iload_n 2, 1) := by decide +kernel
theorem dX10_load_115 : decode cX10_load 115 = .ok (.imul, 1) := by decide +kernel
theorem dX10_load_116 : decode cX10_load 116 = .ok (.iconst 2, 1) := by decide +kernel
theorem dX10_load_117 : decode cX10_load 117 = .ok (.iadd, 1) := by decide +kernel
theorem dX10_load_118 : decode cX10_load 118 = .ok (.iaload, 1) := by decide +kernel
theorem dX10_load_119 : decode cX10_load 119 = .ok (.imul, 1) := by decide +kernel
theorem dX10_load_120 : decode cX10_load 120 = .ok (.aload_n 0, 1) := by decide +kernel
theorem dX10_load_121 : decode cX10_load 121 = .ok (.getfield 28, 3) := by decide +kernel
theorem dX10_load_124 : decode cX10_load 124 = .ok (.iconst 3, 1) := by decide +kernel
theorem dX10_load_125 : decode cX10_load 125 = .ok (.iload_n 2, 1) := by decide +kernel
theorem dX10_load_126 : decode cX10_load 126 = .ok (.imul, 1) := by decide +kernel
theorem dX10_load_127 : decode cX10_load 127 = .ok (.iconst 1, 1) := by decide +kernel
theorem dX10_load_128 : decode cX10_load 128 = .ok (.iadd, 1) := by decide +kernel
theorem dX10_load_129 : decode cX10_load 129 = .ok (.iaload, 1) := by decide +kernel
theorem dX10_load_130 : decode cX10_load 130 = .ok (.iadd, 1) := by decide +kernel
theorem dX10_load_131 : decode cX10_load 131 = .ok (.invokevirtual 96, 3) := by decide +kernel
theorem dX10_load_134 : decode cX10_load 134 = .ok (.pop, 1) := by decide +kernel
theorem dX10_load_135 : decode cX10_load 135 = .ok (.iinc 2 1, 3) := by decide +kernel
theorem dX10_load_138 : decode cX10_load 138 = .ok (.goto (-78), 3) := by decide +kernel
theorem dX10_load_141 : decode cX10_load 141 = .ok (.aload_n 0, 1) := by decide +kernel
theorem dX10_load_142 : decode cX10_load 142 = .ok (.iconst 0, 1) := by decide +kernel
theorem dX10_load_143 : decode cX10_load 143 = .ok (.putfield 124, 3) := by decide +kernel
theorem dX10_load_146 : decode cX10_load 146 = .ok (.iload_n 2, 1) := by decide +kernel
theorem dX10_load_147 : decode cX10_load 147 = .ok (.ireturn, 1) := by decide +kernel
theorem dX10_steps_0 : decode cX10_steps 0 = .ok (.iconst 0, 1) := by decide +kernel
theorem dX10_steps_1 : decode cX10_steps 1 = .ok (.istore_n 2, 1) := by decide +kernel
theorem dX10_steps_2 : decode cX10_steps 2 = .ok (.iconst 0, 1) := by decide +kernel
theorem dX10_steps_3 : decode cX10_steps 3 = .ok (.istore_n 3, 1) := by decide +kernel
theorem dX10_steps_4 : decode cX10_steps 4 = .ok (.iload_n 3, 1) := by decide +kernel
theorem dX10_steps_5 : decode cX10_steps 5 = .ok (.iconst 4, 1) := by decide +kernel
theorem dX10_steps_6 : decode cX10_steps 6 = .ok (.if_icmp .ge 27, 3) := by decide +kernel
theorem dX10_steps_9 : decode cX10_steps 9 = .ok (.iload_n 2, 1) := by decide +kernel
theorem dX10_steps_10 : decode cX10_steps 10 = .ok (.aload_n 0, 1) := by decide +kernel
theorem dX10_steps_11 : decode cX10_steps 11 = .ok (.iload_n 1, 1) := by decide +kernel
theorem dX10_steps_12 : decode cX10_steps 12 = .ok (.iload_n 3, 1) := by decide +kernel
theorem dX10_steps_13 : decode cX10_steps 13 = .ok (.invokevirtual 54, 3) := by decide +kernel
theorem dX10_steps_16 : decode cX10_steps 16 = .ok (.iconst (-1), 1) := by decide +kernel
theorem dX10_steps_17 : decode cX10_steps 17 = .ok (.if_icmp .ne 7, 3) := by decide +kernel
theorem dX10_steps_20 : decode cX10_steps 20 = .ok (.iconst 0, 1) := by decide +kernel
theorem dX10_steps_21 : decode cX10_steps 21 = .ok (.goto 4, 3) := by decide +kernel
theorem dX10_steps_24 : decode cX10_steps 24 = .ok (.iconst 1, 1) := by decide +kernel
theorem dX10_steps_25 : decode cX10_steps 25 = .ok (.iadd, 1) := by decide +kernel
theorem dX10_steps_26 : decode cX10_steps 26 = .ok (.istore_n 2, 1) := by decide +kernel
theorem dX10_steps_27 : decode cX10_steps 27 = .ok (.iinc 3 1, 3) := by decide +kernel
theorem dX10_steps_30 : decode cX10_steps 30 = .ok (.goto (-26), 3) := by decide +kernel
theorem dX10_steps_33 : decode cX10_steps 33 = .ok (.iload_n 2, 1) := by decide +kernel
theorem dX10_steps_34 : decode cX10_steps 34 = .ok (.ireturn, 1) := by decide +kernel
theorem dX10_cellNow_0 : decode cX10_cellNow 0 = .ok (.iload_n 2, 1) := by decide +kernel
theorem dX10_cellNow_1 : decode cX10_cellNow 1 = .ok (.ifCond .ne 12, 3) := by decide +kernel
theorem dX10_cellNow_4 : decode cX10_cellNow 4 = .ok (.aload_n 0, 1) := by decide +kernel
theorem dX10_cellNow_5 : decode cX10_cellNow 5 = .ok (.getfield 7, 3) := by decide +kernel
theorem dX10_cellNow_8 : decode cX10_cellNow 8 = .ok (.iload_n 1, 1) := by decide +kernel
theorem dX10_cellNow_9 : decode cX10_cellNow 9 = .ok (.iaload, 1) := by decide +kernel
theorem dX10_cellNow_10 : decode cX10_cellNow 10 = .ok (.goto 34, 3) := by decide +kernel
theorem dX10_cellNow_13 : decode cX10_cellNow 13 = .ok (.iload_n 2, 1) := by decide +kernel
theorem dX10_cellNow_14 : decode cX10_cellNow 14 = .ok (.iconst 1, 1) := by decide +kernel
theorem dX10_cellNow_15 : decode cX10_cellNow 15 = .ok (.if_icmp .ne 11, 3) := by decide +kernel
theorem dX10_cellNow_18 : decode cX10_cellNow 18 = .ok (.aload_n 0, 1) := by decide +kernel
theorem dX10_cellNow_19 : decode cX10_cellNow 19 = .ok (.iload_n 1, 1) := by decide +kernel
theorem dX10_cellNow_20 : decode cX10_cellNow 20 = .ok (.invokevirtual 57, 3) := by decide +kernel
theorem dX10_cellNow_23 : decode cX10_cellNow 23 = .ok (.goto 21, 3) := by decide +kernel
theorem dX10_cellNow_26 : decode cX10_cellNow 26 = .ok (.iload_n 2, 1) := by decide +kernel
theorem dX10_cellNow_27 : decode cX10_cellNow 27 = .ok (.iconst 2, 1) := by decide +kernel
theorem dX10_cellNow_28 : decode cX10_cellNow 28 = .ok (.if_icmp .ne 11, 3) := by decide +kernel
theorem dX10_cellNow_31 : decode cX10_cellNow 31 = .ok (.aload_n 0, 1) := by decide +kernel
theorem dX10_cellNow_32 : decode cX10_cellNow 32 = .ok (.iload_n 1, 1) := by decide +kernel
theorem dX10_cellNow_33 : decode cX10_cellNow 33 = .ok (.invokevirtual 146, 3) := by decide +kernel
theorem dX10_cellNow_36 : decode cX10_cellNow 36 = .ok (.goto 8, 3) := by decide +kernel
theorem dX10_cellNow_39 : decode cX10_cellNow 39 = .ok (.aload_n 0, 1) := by decide +kernel
theorem dX10_cellNow_40 : decode cX10_cellNow 40 = .ok (.iload_n 1, 1) := by decide +kernel
theorem dX10_cellNow_41 : decode cX10_cellNow 41 = .ok (.invokevirtual 149, 3) := by decide +kernel
theorem dX10_cellNow_44 : decode cX10_cellNow 44 = .ok (.ireturn, 1) := by decide +kernel
theorem dX10_cell_0 : decode cX10_cell 0 = .ok (.aload_n 0, 1) := by decide +kernel
theorem dX10_cell_1 : decode cX10_cell 1 = .ok (.iload_n 1, 1) := by decide +kernel
theorem dX10_cell_2 : decode cX10_cell 2 = .ok (.invokestatic 71, 3) := by decide +kernel
theorem dX10_cell_5 : decode cX10_cell 5 = .ok (.ifCond .ne 7, 3) := by decide +kernel
theorem dX10_cell_8 : decode cX10_cell 8 = .ok (.iconst 1, 1) := by decide +kernel
theorem dX10_cell_9 : decode cX10_cell 9 = .ok (.goto 17, 3) := by decide +kernel
theorem dX10_cell_12 : decode cX10_cell 12 = .ok (.iload_n 2, 1) := by decide +kernel
theorem dX10_cell_13 : decode cX10_cell 13 = .ok (.iconst 0, 1) := by decide +kernel
theorem dX10_cell_14 : decode cX10_cell 14 = .ok (.iconst 3, 1) := by decide +kernel
theorem dX10_cell_15 : decode cX10_cell 15 = .ok (.invokestatic 35, 3) := by decide +kernel
theorem dX10_cell_18 : decode cX10_cell 18 = .ok (.ifCond .eq 7, 3) := by decide +kernel
theorem dX10_cell_21 : decode cX10_cell 21 = .ok (.iconst 0, 1) := by decide +kernel
theorem dX10_cell_22 : decode cX10_cell 22 = .ok (.goto 4, 3) := by decide +kernel
theorem dX10_cell_25 : decode cX10_cell 25 = .ok (.iconst 2, 1) := by decide +kernel
theorem dX10_cell_26 : decode cX10_cell 26 = .ok (.putfield 31, 3) := by decide +kernel
theorem dX10_cell_29 : decode cX10_cell 29 = .ok (.aload_n 0, 1) := by decide +kernel
theorem dX10_cell_30 : decode cX10_cell 30 = .ok (.getfield 31, 3) := by decide +kernel
theorem dX10_cell_33 : decode cX10_cell 33 = .ok (.ifCond .le 7, 3) := by decide +kernel
theorem dX10_cell_36 : decode cX10_cell 36 = .ok (.iconst 0, 1) := by decide +kernel
theorem dX10_cell_37 : decode cX10_cell 37 = .ok (.goto 9, 3) := by decide +kernel
theorem dX10_cell_40 : decode cX10_cell 40 = .ok (.aload_n 0, 1) := by decide +kernel
theorem dX10_cell_41 : decode cX10_cell 41 = .ok (.iload_n 1, 1) := by decide +kernel
theorem dX10_cell_42 : decode cX10_cell 42 = .ok (.iload_n 2, 1) := by decide +kernel
theorem dX10_cell_43 : decode cX10_cell 43 = .ok (.invokevirtual 152, 3) := by decide +kernel
theorem dX10_cell_46 : decode cX10_cell 46 = .ok (.ireturn, 1) := by decide +kernel
theorem dX10_ordersFor_0 : decode cX10_ordersFor 0 = .ok (.iconst 0, 1) := by decide +kernel
theorem dX10_ordersFor_1 : decode cX10_ordersFor 1 = .ok (.istore_n 2, 1) := by decide +kernel
theorem dX10_ordersFor_2 : decode cX10_ordersFor 2 = .ok (.iconst 0, 1) := by decide +kernel
theorem dX10_ordersFor_3 : decode cX10_ordersFor 3 = .ok (.istore_n 3, 1) := by decide +kernel
theorem dX10_ordersFor_4 : decode cX10_ordersFor 4 = .ok (.iload_n 3, 1) := by decide +kernel
theorem dX10_ordersFor_5 : decode cX10_ordersFor 5 = .ok (.aload_n 0, 1) := by decide +kernel
theorem dX10_ordersFor_6 : decode cX10_ordersFor 6 = .ok (.getfield 7, 3) := by decide +kernel
theorem dX10_ordersFor_9 : decode cX10_ordersFor 9 = .ok (.sipush 195, 3) := by decide +kernel
theorem dX10_ordersFor_12 : decode cX10_ordersFor 12 = .ok (.iaload, 1) := by decide +kernel
theorem dX10_ordersFor_13 : decode cX10_ordersFor 13 = .ok (.if_icmp .ge 35, 3) := by decide +kernel
theorem dX10_ordersFor_16 : decode cX10_ordersFor 16 = .ok (.iload_n 2, 1) := by decide +kernel
theorem dX10_ordersFor_17 : decode cX10_ordersFor 17 = .ok (.aload_n 0, 1) := by decide +kernel
theorem dX10_ordersFor_18 : decode cX10_ordersFor 18 = .ok (.getfield 7, 3) := by decide +kernel
theorem dX10_ordersFor_21 : decode cX10_ordersFor 21 = .ok (.sipush 196, 3) := by decide +kernel
theorem dX10_ordersFor_24 : decode cX10_ordersFor 24 = .ok (.iconst 4, 1) := by decide +kernel
theorem dX10_ordersFor_25 : decode cX10_ordersFor 25 = .ok (.iload_n 3, 1) := by decide +kernel
theorem dX10_ordersFor_26 : decode cX10_ordersFor 26 = .ok (.imul, 1) := by decide +kernel
theorem dX10_ordersFor_27 : decode cX10_ordersFor 27 = .ok (.iadd, 1) := by decide +kernel
theorem dX10_ordersFor_28 : decode cX10_ordersFor 28 = .ok (.iconst 1, 1) := by decide +kernel
theorem dX10_ordersFor_29 : decode cX10_ordersFor 29 = .ok (.iadd, 1) := by decide +kernel
theorem dX10_ordersFor_30 : decode cX10_ordersFor 30 = .ok (.iaload, 1) := by decide +kernel
theorem dX10_ordersFor_31 : decode cX10_ordersFor 31 = .ok (.iload_n 1, 1) := by decide +kernel
theorem dX10_ordersFor_32 : decode cX10_ordersFor 32 = .ok (.if_icmp .ne 7, 3) := by decide +kernel
theorem dX10_ordersFor_35 : decode cX10_ordersFor 35 = .ok (.iconst 1, 1) := by decide +kernel
theorem dX10_ordersFor_36 : decode cX10_ordersFor 36 = .ok (.goto 4, 3) := by decide +kernel
theorem dX10_ordersFor_39 : decode cX10_ordersFor 39 = .ok (.iconst 0, 1) := by decide +kernel
theorem dX10_ordersFor_40 : decode cX10_ordersFor 40 = .ok (.iadd, 1) := by decide +kernel
theorem dX10_ordersFor_41 : decode cX10_ordersFor 41 = .ok (.istore_n 2, 1) := by decide +kernel
theorem dX10_ordersFor_42 : decode cX10_ordersFor 42 = .ok (.iinc 3 1, 3) := by decide +kernel
theorem dX10_ordersFor_45 : decode cX10_ordersFor 45 = .ok (.goto (-41), 3) := by decide +kernel
theorem dX10_ordersFor_48 : decode cX10_ordersFor 48 = .ok (.iload_n 2, 1) := by decide +kernel
theorem dX10_ordersFor_49 : decode cX10_ordersFor 49 = .ok (.ireturn, 1) := by decide +kernel
theorem dX10_troopNow_0 : decode cX10_troopNow 0 = .ok (.iload_n 2, 1) := by decide +kernel
theorem dX10_troopNow_1 : decode cX10_troopNow 1 = .ok (.bipush 7, 2) := by decide +kernel
theorem dX10_troopNow_3 : decode cX10_troopNow 3 = .ok (.if_icmp .ne 11, 3) := by decide +kernel
theorem dX10_troopNow_6 : decode cX10_troopNow 6 = .ok (.aload_n 0, 1) := by decide +kernel
theorem dX10_troopNow_7 : decode cX10_troopNow 7 = .ok (.iload_n 1, 1) := by decide +kernel
theorem dX10_troopNow_8 : decode cX10_troopNow 8 = .ok (.invokevirtual 155, 3) := by decide +kernel
theorem dX10_troopNow_11 : decode cX10_troopNow 11 = .ok (.goto 20, 3) := by decide +kernel
theorem dX10_troopNow_14 : decode cX10_troopNow 14 = .ok (.aload_n 0, 1) := by decide +kernel
theorem dX10_troopNow_15 : decode cX10_troopNow 15 = .ok (.iload_n 1, 1) := by decide +kernel
theorem dX10_troopNow_16 : decode cX10_troopNow 16 = .ok (.iload_n 2, 1) := by decide +kernel
theorem dX10_troopNow_17 : decode cX10_troopNow 17 = .ok (.bipush 8, 2) := by decide +kernel
theorem dX10_troopNow_19 : decode cX10_troopNow 19 = .ok (.if_icmp .ne 8, 3) := by decide +kernel
theorem dX10_troopNow_22 : decode cX10_troopNow 22 = .ok (.bipush 7, 2) := by decide +kernel
theorem dX10_troopNow_24 : decode cX10_troopNow 24 = .ok (.goto 4, 3) := by decide +kernel
theorem dX10_troopNow_27 : decode cX10_troopNow 27 = .ok (.iload_n 2, 1) := by decide +kernel
theorem dX10_troopNow_28 : decode cX10_troopNow 28 = .ok (.invokevirtual 39, 3) := by decide +kernel
theorem dX10_troopNow_31 : decode cX10_troopNow 31 = .ok (.ireturn, 1) := by decide +kernel
theorem dX10_troop_0 : decode cX10_troop 0 = .ok (.aload_n 0, 1) := by decide +kernel
theorem dX10_troop_1 : decode cX10_troop 1 = .ok (.aload_n 0, 1) := by decide +kernel
theorem dX10_troop_2 : decode cX10_troop 2 = .ok (.iload_n 1, 1) := by decide +kernel
theorem dX10_troop_3 : decode cX10_troop 3 = .ok (.invokevirtual 90, 3) := by decide +kernel
theorem dX10_troop_6 : decode cX10_troop 6 = .ok (.ifCond .ne 7, 3) := by decide +kernel
theorem dX10_troop_9 : decode cX10_troop 9 = .ok (.iconst 1, 1) := by decide +kernel
theorem dX10_troop_10 : decode cX10_troop 10 = .ok (.goto 18, 3) := by decide +kernel
theorem dX10_troop_13 : decode cX10_troop 13 = .ok (.iload_n 2, 1) := by decide +kernel
theorem dX10_troop_14 : decode cX10_troop 14 = .ok (.iconst 0, 1) := by decide +kernel
theorem dX10_troop_15 : decode cX10_troop 15 = .ok (.bipush 8, 2) := by decide +kernel
theorem dX10_troop_17 : decode cX10_troop 17 = .ok (.invokestatic 35, 3) := by decide +kernel
theorem dX10_troop_20 : decode cX10_troop 20 = .ok (.ifCond .eq 7, 3) := by decide +kernel
theorem dX10_troop_23 : decode cX10_troop 23 = .ok (.iconst 0, 1) := by decide +kernel
theorem dX10_troop_24 : decode cX10_troop 24 = .ok (.goto 4, 3) := by decide +kernel
theorem dX10_troop_27 : decode cX10_troop 27 = .ok (.iconst 2, 1) := by decide +kernel
theorem dX10_troop_28 : decode cX10_troop 28 = .ok (.putfield 31, 3) := by decide +kernel
theorem dX10_troop_31 : decode cX10_troop 31 = .ok (.aload_n 0, 1) := by decide +kernel
theorem dX10_troop_32 : decode cX10_troop 32 = .ok (.getfield 31, 3) := by decide +kernel
theorem dX10_troop_35 : decode cX10_troop 35 = .ok (.ifCond .le 7, 3) := by decide +kernel
theorem dX10_troop_38 : decode cX10_troop 38 = .ok (.iconst 0, 1) := by decide +kernel
theorem dX10_troop_39 : decode cX10_troop 39 = .ok (.goto 9, 3) := by decide +kernel
theorem dX10_troop_42 : decode cX10_troop 42 = .ok (.aload_n 0, 1) := by decide +kernel
theorem dX10_troop_43 : decode cX10_troop 43 = .ok (.iload_n 1, 1) := by decide +kernel
theorem dX10_troop_44 : decode cX10_troop 44 = .ok (.iload_n 2, 1) := by decide +kernel
theorem dX10_troop_45 : decode cX10_troop 45 = .ok (.invokevirtual 158, 3) := by decide +kernel
theorem dX10_troop_48 : decode cX10_troop 48 = .ok (.ireturn, 1) := by decide +kernel
theorem dX10_rank_0 : decode cX10_rank 0 = .ok (.iconst 0, 1) := by decide +kernel
theorem dX10_rank_1 : decode cX10_rank 1 = .ok (.istore_n 2, 1) := by decide +kernel
theorem dX10_rank_2 : decode cX10_rank 2 = .ok (.iconst 0, 1) := by decide +kernel
theorem dX10_rank_3 : decode cX10_rank 3 = .ok (.istore_n 3, 1) := by decide +kernel
theorem dX10_rank_4 : decode cX10_rank 4 = .ok (.iload_n 3, 1) := by decide +kernel
theorem dX10_rank_5 : decode cX10_rank 5 = .ok (.aload_n 0, 1) := by decide +kernel
theorem dX10_rank_6 : decode cX10_rank 6 = .ok (.getfield 7, 3) := by decide +kernel
theorem dX10_rank_9 : decode cX10_rank 9 = .ok (.sipush 195, 3) := by decide +kernel
theorem dX10_rank_12 : decode cX10_rank 12 = .ok (.iaload, 1) := by decide +kernel
theorem dX10_rank_13 : decode cX10_rank 13 = .ok (.if_icmp .ge 63, 3) := by decide +kernel
theorem dX10_rank_16 : decode cX10_rank 16 = .ok (.aload_n 0, 1) := by decide +kernel
theorem dX10_rank_17 : decode cX10_rank 17 = .ok (.getfield 7, 3) := by decide +kernel
theorem dX10_rank_20 : decode cX10_rank 20 = .ok (.sipush 196, 3) := by decide +kernel
theorem dX10_rank_23 : decode cX10_rank 23 = .ok (.iconst 4, 1) := by decide +kernel
theorem dX10_rank_24 : decode cX10_rank 24 = .ok (.iload_n 3, 1) := by decide +kernel
theorem dX10_rank_25 : decode cX10_rank 25 = .ok (.imul, 1) := by decide +kernel
theorem dX10_rank_26 : decode cX10_rank 26 = .ok (.iadd, 1) := by decide +kernel
theorem dX10_rank_27 : decode cX10_rank 27 = .ok (.iconst 3, 1) := by decide +kernel
theorem dX10_rank_28 : decode cX10_rank 28 = .ok (.iadd, 1) := by decide +kernel
theorem dX10_rank_29 : decode cX10_rank 29 = .ok (.iaload, 1) := by decide +kernel
theorem dX10_rank_30 : decode cX10_rank 30 = .ok (.aload_n 0, 1) := by decide +kernel
theorem dX10_rank_31 : decode cX10_rank 31 = .ok (.getfield 7, 3) := by decide +kernel
theorem dX10_rank_34 : decode cX10_rank 34 = .ok (.sipush 196, 3) := by decide +kernel
theorem dX10_rank_37 : decode cX10_rank 37 = .ok (.iconst 4, 1) := by decide +kernel
theorem dX10_rank_38 : decode cX10_rank 38 = .ok (.iload_n 1, 1) := by decide +kernel
theorem dX10_rank_39 : decode cX10_rank 39 = .ok (.imul, 1) := by decide +kernel
theorem dX10_rank_40 : decode cX10_rank 40 = .ok (.iadd, 1) := by decide +kernel
theorem dX10_rank_41 : decode cX10_rank 41 = .ok (.iconst 3, 1) := by decide +kernel
theorem dX10_rank_42 : decode cX10_rank 42 = .ok (.iadd, 1) := by decide +kernel
theorem dX10_rank_43 : decode cX10_rank 43 = .ok (.iaload, 1) := by decide +kernel
theorem dX10_rank_44 : decode cX10_rank 44 = .ok (.isub, 1) := by decide +kernel
theorem dX10_rank_45 : decode cX10_rank 45 = .ok (.istore 4, 2) := by decide +kernel
theorem dX10_rank_47 : decode cX10_rank 47 = .ok (.iload_n 2, 1) := by decide +kernel
theorem dX10_rank_48 : decode cX10_rank 48 = .ok (.iload 4, 2) := by decide +kernel
theorem dX10_rank_50 : decode cX10_rank 50 = .ok (.ifCond .lt 13, 3) := by decide +kernel
theorem dX10_rank_53 : decode cX10_rank 53 = .ok (.iload 4, 2) := by decide +kernel
theorem dX10_rank_55 : decode cX10_rank 55 = .ok (.ifCond .ne 12, 3) := by decide +kernel
theorem dX10_rank_58 : decode cX10_rank 58 = .ok (.iload_n 3, 1) := by decide +kernel
theorem dX10_rank_59 : decode cX10_rank 59 = .ok (.iload_n 1, 1) := by decide +kernel
theorem dX10_rank_60 : decode cX10_rank 60 = .ok (.if_icmp .ge 7, 3) := by decide +kernel
theorem dX10_rank_63 : decode cX10_rank 63 = .ok (.iconst 1, 1) := by decide +kernel
theorem dX10_rank_64 : decode cX10_rank 64 = .ok (.goto 4, 3) := by decide +kernel
theorem dX10_rank_67 : decode cX10_rank 67 = .ok (.iconst 0, 1) := by decide +kernel
theorem dX10_rank_68 : decode cX10_rank 68 = .ok (.iadd, 1) := by decide +kernel
theorem dX10_rank_69 : decode cX10_rank 69 = .ok (.istore_n 2, 1) := by decide +kernel
theorem dX10_rank_70 : decode cX10_rank 70 = .ok (.iinc 3 1, 3) := by decide +kernel
theorem dX10_rank_73 : decode cX10_rank 73 = .ok (.goto (-69), 3) := by decide +kernel
theorem dX10_rank_76 : decode cX10_rank 76 = .ok (.iload_n 2, 1) := by decide +kernel
theorem dX10_rank_77 : decode cX10_rank 77 = .ok (.ireturn, 1) := by decide +kernel
theorem dX10_underWayNow_0 : decode cX10_underWayNow 0 = .ok (.iconst 0, 1) := by decide +kernel
theorem dX10_underWayNow_1 : decode cX10_underWayNow 1 = .ok (.istore_n 3, 1) := by decide +kernel
theorem dX10_underWayNow_2 : decode cX10_underWayNow 2 = .ok (.aload_n 0, 1) := by decide +kernel
theorem dX10_underWayNow_3 : decode cX10_underWayNow 3 = .ok (.iload_n 3, 1) := by decide +kernel
theorem dX10_underWayNow_4 : decode cX10_underWayNow 4 = .ok (.invokevirtual 161, 3) := by decide +kernel
theorem dX10_underWayNow_7 : decode cX10_underWayNow 7 = .ok (.iload_n 1, 1) := by decide +kernel
theorem dX10_underWayNow_8 : decode cX10_underWayNow 8 = .ok (.if_icmp .eq 9, 3) := by decide +kernel
theorem dX10_underWayNow_11 : decode cX10_underWayNow 11 = .ok (.iinc 3 1, 3) := by decide +kernel
theorem dX10_underWayNow_14 : decode cX10_underWayNow 14 = .ok (.goto (-12), 3) := by decide +kernel
theorem dX10_underWayNow_17 : decode cX10_underWayNow 17 = .ok (.aload_n 0, 1) := by decide +kernel
theorem dX10_underWayNow_18 : decode cX10_underWayNow 18 = .ok (.getfield 7, 3) := by decide +kernel
theorem dX10_underWayNow_21 : decode cX10_underWayNow 21 = .ok (.sipush 196, 3) := by decide +kernel
theorem dX10_underWayNow_24 : decode cX10_underWayNow 24 = .ok (.iconst 4, 1) := by decide +kernel
theorem dX10_underWayNow_25 : decode cX10_underWayNow 25 = .ok (.iload_n 3, 1) := by decide +kernel
theorem dX10_underWayNow_26 : decode cX10_underWayNow 26 = .ok (.imul, 1) := by decide +kernel
theorem dX10_underWayNow_27 : decode cX10_underWayNow 27 = .ok (.iadd, 1) := by decide +kernel
theorem dX10_underWayNow_28 : decode cX10_underWayNow 28 = .ok (.iload_n 2, 1) := by decide +kernel
theorem dX10_underWayNow_29 : decode cX10_underWayNow 29 = .ok (.iadd, 1) := by decide +kernel
theorem dX10_underWayNow_30 : decode cX10_underWayNow 30 = .ok (.iaload, 1) := by decide +kernel
theorem dX10_underWayNow_31 : decode cX10_underWayNow 31 = .ok (.ireturn, 1) := by decide +kernel
theorem dX10_underWay_0 : decode cX10_underWay 0 = .ok (.aload_n 0, 1) := by decide +kernel
theorem dX10_underWay_1 : decode cX10_underWay 1 = .ok (.iload_n 1, 1) := by decide +kernel
theorem dX10_underWay_2 : decode cX10_underWay 2 = .ok (.iconst 0, 1) := by decide +kernel
theorem dX10_underWay_3 : decode cX10_underWay 3 = .ok (.aload_n 0, 1) := by decide +kernel
theorem dX10_underWay_4 : decode cX10_underWay 4 = .ok (.getfield 7, 3) := by decide +kernel
theorem dX10_underWay_7 : decode cX10_underWay 7 = .ok (.sipush 195, 3) := by decide +kernel
theorem dX10_underWay_10 : decode cX10_underWay 10 = .ok (.iaload, 1) := by decide +kernel
theorem dX10_underWay_11 : decode cX10_underWay 11 = .ok (.iconst 1, 1) := by decide +kernel
theorem dX10_underWay_12 : decode cX10_underWay 12 = .ok (.isub, 1) := by decide +kernel
theorem dX10_underWay_13 : decode cX10_underWay 13 = .ok (.invokestatic 35, 3) := by decide +kernel
theorem dX10_underWay_16 : decode cX10_underWay 16 = .ok (.ifCond .ne 7, 3) := by decide +kernel
theorem dX10_underWay_19 : decode cX10_underWay 19 = .ok (.iconst 1, 1) := by decide +kernel
theorem dX10_underWay_20 : decode cX10_underWay 20 = .ok (.goto 17, 3) := by decide +kernel
theorem dX10_underWay_23 : decode cX10_underWay 23 = .ok (.iload_n 2, 1) := by decide +kernel
theorem dX10_underWay_24 : decode cX10_underWay 24 = .ok (.iconst 0, 1) := by decide +kernel
theorem dX10_underWay_25 : decode cX10_underWay 25 = .ok (.iconst 3, 1) := by decide +kernel
theorem dX10_underWay_26 : decode cX10_underWay 26 = .ok (.invokestatic 35, 3) := by decide +kernel
theorem dX10_underWay_29 : decode cX10_underWay 29 = .ok (.ifCond .eq 7, 3) := by decide +kernel
theorem dX10_underWay_32 : decode cX10_underWay 32 = .ok (.iconst 0, 1) := by decide +kernel
theorem dX10_underWay_33 : decode cX10_underWay 33 = .ok (.goto 4, 3) := by decide +kernel
theorem dX10_underWay_36 : decode cX10_underWay 36 = .ok (.iconst 2, 1) := by decide +kernel
theorem dX10_underWay_37 : decode cX10_underWay 37 = .ok (.putfield 31, 3) := by decide +kernel
theorem dX10_underWay_40 : decode cX10_underWay 40 = .ok (.aload_n 0, 1) := by decide +kernel
theorem dX10_underWay_41 : decode cX10_underWay 41 = .ok (.getfield 31, 3) := by decide +kernel
theorem dX10_underWay_44 : decode cX10_underWay 44 = .ok (.ifCond .le 7, 3) := by decide +kernel
theorem dX10_underWay_47 : decode cX10_underWay 47 = .ok (.iconst 0, 1) := by decide +kernel
theorem dX10_underWay_48 : decode cX10_underWay 48 = .ok (.goto 9, 3) := by decide +kernel
theorem dX10_underWay_51 : decode cX10_underWay 51 = .ok (.aload_n 0, 1) := by decide +kernel
theorem dX10_underWay_52 : decode cX10_underWay 52 = .ok (.iload_n 1, 1) := by decide +kernel
theorem dX10_underWay_53 : decode cX10_underWay 53 = .ok (.iload_n 2, 1) := by decide +kernel
theorem dX10_underWay_54 : decode cX10_underWay 54 = .ok (.invokevirtual 164, 3) := by decide +kernel
theorem dX10_underWay_57 : decode cX10_underWay 57 = .ok (.ireturn, 1) := by decide +kernel
theorem dX10_inState_0 : decode cX10_inState 0 = .ok (.iconst 0, 1) := by decide +kernel
theorem dX10_inState_1 : decode cX10_inState 1 = .ok (.istore_n 2, 1) := by decide +kernel
theorem dX10_inState_2 : decode cX10_inState 2 = .ok (.iconst 0, 1) := by decide +kernel
theorem dX10_inState_3 : decode cX10_inState 3 = .ok (.istore_n 3, 1) := by decide +kernel
theorem dX10_inState_4 : decode cX10_inState 4 = .ok (.iload_n 3, 1) := by decide +kernel
theorem dX10_inState_5 : decode cX10_inState 5 = .ok (.aload_n 0, 1) := by decide +kernel
theorem dX10_inState_6 : decode cX10_inState 6 = .ok (.getfield 7, 3) := by decide +kernel
theorem dX10_inState_9 : decode cX10_inState 9 = .ok (.bipush 98, 2) := by decide +kernel
theorem dX10_inState_11 : decode cX10_inState 11 = .ok (.iaload, 1) := by decide +kernel
theorem dX10_inState_12 : decode cX10_inState 12 = .ok (.if_icmp .ge 27, 3) := by decide +kernel
theorem dX10_inState_15 : decode cX10_inState 15 = .ok (.iload_n 2, 1) := by decide +kernel
theorem dX10_inState_16 : decode cX10_inState 16 = .ok (.aload_n 0, 1) := by decide +kernel
theorem dX10_inState_17 : decode cX10_inState 17 = .ok (.iload_n 3, 1) := by decide +kernel
theorem dX10_inState_18 : decode cX10_inState 18 = .ok (.iconst 4, 1) := by decide +kernel
theorem dX10_inState_19 : decode cX10_inState 19 = .ok (.invokevirtual 39, 3) := by decide +kernel
theorem dX10_inState_22 : decode cX10_inState 22 = .ok (.iload_n 1, 1) := by decide +kernel
theorem dX10_inState_23 : decode cX10_inState 23 = .ok (.if_icmp .ne 7, 3) := by decide +kernel
theorem dX10_inState_26 : decode cX10_inState 26 = .ok (.iconst 1, 1) := by decide +kernel
theorem dX10_inState_27 : decode cX10_inState 27 = .ok (.goto 4, 3) := by decide +kernel
theorem dX10_inState_30 : decode cX10_inState 30 = .ok (.iconst 0, 1) := by decide +kernel
theorem dX10_inState_31 : decode cX10_inState 31 = .ok (.iadd, 1) := by decide +kernel
theorem dX10_inState_32 : decode cX10_inState 32 = .ok (.istore_n 2, 1) := by decide +kernel
theorem dX10_inState_33 : decode cX10_inState 33 = .ok (.iinc 3 1, 3) := by decide +kernel
theorem dX10_inState_36 : decode cX10_inState 36 = .ok (.goto (-32), 3) := by decide +kernel
theorem dX10_inState_39 : decode cX10_inState 39 = .ok (.iload_n 2, 1) := by decide +kernel
theorem dX10_inState_40 : decode cX10_inState 40 = .ok (.ireturn, 1) := by decide +kernel
theorem dX10_strengthOf_0 : decode cX10_strengthOf 0 = .ok (.iconst 0, 1) := by decide +kernel
theorem dX10_strengthOf_1 : decode cX10_strengthOf 1 = .ok (.istore_n 2, 1) := by decide +kernel
theorem dX10_strengthOf_2 : decode cX10_strengthOf 2 = .ok (.iconst 0, 1) := by decide +kernel
theorem dX10_strengthOf_3 : decode cX10_strengthOf 3 = .ok (.istore_n 3, 1) := by decide +kernel
theorem dX10_strengthOf_4 : decode cX10_strengthOf 4 = .ok (.iload_n 3, 1) := by decide +kernel
theorem dX10_strengthOf_5 : decode cX10_strengthOf 5 = .ok (.aload_n 0, 1) := by decide +kernel
theorem dX10_strengthOf_6 : decode cX10_strengthOf 6 = .ok (.getfield 7, 3) := by decide +kernel
theorem dX10_strengthOf_9 : decode cX10_strengthOf 9 = .ok (.bipush 98, 2) := by decide +kernel
theorem dX10_strengthOf_11 : decode cX10_strengthOf 11 = .ok (.iaload, 1) := by decide +kernel
theorem dX10_strengthOf_12 : decode cX10_strengthOf 12 = .ok (.if_icmp .ge 32, 3) := by decide +kernel
theorem dX10_strengthOf_15 : decode cX10_strengthOf 15 = .ok (.iload_n 2, 1) := by decide +kernel
theorem dX10_strengthOf_16 : decode cX10_strengthOf 16 = .ok (.aload_n 0, 1) := by decide +kernel
theorem dX10_strengthOf_17 : decode cX10_strengthOf 17 = .ok (.iload_n 3, 1) := by decide +kernel
theorem dX10_strengthOf_18 : decode cX10_strengthOf 18 = .ok (.iconst 0, 1) := by decide +kernel
theorem dX10_strengthOf_19 : decode cX10_strengthOf 19 = .ok (.invokevirtual 39, 3) := by decide +kernel
theorem dX10_strengthOf_22 : decode cX10_strengthOf 22 = .ok (.iload_n 1, 1) := by decide +kernel
theorem dX10_strengthOf_23 : decode cX10_strengthOf 23 = .ok (.if_icmp .ne 12, 3) := by decide +kernel
theorem dX10_strengthOf_26 : decode cX10_strengthOf 26 = .ok (.aload_n 0, 1) := by decide +kernel
theorem dX10_strengthOf_27 : decode cX10_strengthOf 27 = .ok (.iload_n 3, 1) := by decide +kernel
theorem dX10_strengthOf_28 : decode cX10_strengthOf 28 = .ok (.iconst 2, 1) := by decide +kernel
theorem dX10_strengthOf_29 : decode cX10_strengthOf 29 = .ok (.invokevirtual 39, 3) := by decide +kernel
theorem dX10_strengthOf_32 : decode cX10_strengthOf 32 = .ok (.goto 4, 3) := by decide +kernel
theorem dX10_strengthOf_35 : decode cX10_strengthOf 35 = .ok (.iconst 0, 1) := by decide +kernel
theorem dX10_strengthOf_36 : decode cX10_strengthOf 36 = .ok (.iadd, 1) := by decide +kernel
theorem dX10_strengthOf_37 : decode cX10_strengthOf 37 = .ok (.istore_n 2, 1) := by decide +kernel
theorem dX10_strengthOf_38 : decode cX10_strengthOf 38 = .ok (.iinc 3 1, 3) := by decide +kernel
theorem dX10_strengthOf_41 : decode cX10_strengthOf 41 = .ok (.goto (-37), 3) := by decide +kernel
theorem dX10_strengthOf_44 : decode cX10_strengthOf 44 = .ok (.iload_n 2, 1) := by decide +kernel
theorem dX10_strengthOf_45 : decode cX10_strengthOf 45 = .ok (.ireturn, 1) := by decide +kernel
theorem dX10_counted_0 : decode cX10_counted 0 = .ok (.iload_n 1, 1) := by decide +kernel
theorem dX10_counted_1 : decode cX10_counted 1 = .ok (.tableswitch 167 0 12 #[67, 76, 84, 98, 104, 113, 122, 131, 131, 145, 145, 154, 154], 67) := by decide +kernel
theorem dX10_counted_68 : decode cX10_counted 68 = .ok (.aload_n 0, 1) := by decide +kernel
theorem dX10_counted_69 : decode cX10_counted 69 = .ok (.getfield 7, 3) := by decide +kernel
theorem dX10_counted_72 : decode cX10_counted 72 = .ok (.sipush 316, 3) := by decide +kernel
theorem dX10_counted_75 : decode cX10_counted 75 = .ok (.iaload, 1) := by decide +kernel
theorem dX10_counted_76 : decode cX10_counted 76 = .ok (.ireturn, 1) := by decide +kernel
theorem dX10_counted_77 : decode cX10_counted 77 = .ok (.aload_n 0, 1) := by decide +kernel
theorem dX10_counted_78 : decode cX10_counted 78 = .ok (.getfield 7, 3) := by decide +kernel
theorem dX10_counted_81 : decode cX10_counted 81 = .ok (.bipush 98, 2) := by decide +kernel
theorem dX10_counted_83 : decode cX10_counted 83 = .ok (.iaload, 1) := by decide +kernel
theorem dX10_counted_84 : decode cX10_counted 84 = .ok (.ireturn, 1) := by decide +kernel
theorem dX10_counted_85 : decode cX10_counted 85 = .ok (.aload_n 0, 1) := by decide +kernel
theorem dX10_counted_86 : decode cX10_counted 86 = .ok (.getfield 7, 3) := by decide +kernel
theorem dX10_counted_89 : decode cX10_counted 89 = .ok (.bipush 98, 2) := by decide +kernel
theorem dX10_counted_91 : decode cX10_counted 91 = .ok (.iaload, 1) := by decide +kernel
theorem dX10_counted_92 : decode cX10_counted 92 = .ok (.aload_n 0, 1) := by decide +kernel
theorem dX10_counted_93 : decode cX10_counted 93 = .ok (.iconst 2, 1) := by decide +kernel
theorem dX10_counted_94 : decode cX10_counted 94 = .ok (.invokevirtual 167, 3) := by decide +kernel
theorem dX10_counted_97 : decode cX10_counted 97 = .ok (.isub, 1) := by decide +kernel
theorem dX10_counted_98 : decode cX10_counted 98 = .ok (.ireturn, 1) := by decide +kernel
theorem dX10_counted_99 : decode cX10_counted 99 = .ok (.aload_n 0, 1) := by decide +kernel
theorem dX10_counted_100 : decode cX10_counted 100 = .ok (.iconst 1, 1) := by decide +kernel
theorem dX10_counted_101 : decode cX10_counted 101 = .ok (.invokevirtual 167, 3) := by decide +kernel
theorem dX10_counted_104 : decode cX10_counted 104 = .ok (.ireturn, 1) := by decide +kernel
theorem dX10_counted_105 : decode cX10_counted 105 = .ok (.aload_n 0, 1) := by decide +kernel
theorem dX10_counted_106 : decode cX10_counted 106 = .ok (.getfield 7, 3) := by decide +kernel
theorem dX10_counted_109 : decode cX10_counted 109 = .ok (.sipush 317, 3) := by decide +kernel
theorem dX10_counted_112 : decode cX10_counted 112 = .ok (.iaload, 1) := by decide +kernel
theorem dX10_counted_113 : decode cX10_counted 113 = .ok (.ireturn, 1) := by decide +kernel
theorem dX10_counted_114 : decode cX10_counted 114 = .ok (.aload_n 0, 1) := by decide +kernel
theorem dX10_counted_115 : decode cX10_counted 115 = .ok (.getfield 7, 3) := by decide +kernel
theorem dX10_counted_118 : decode cX10_counted 118 = .ok (.sipush 195, 3) := by decide +kernel
theorem dX10_counted_121 : decode cX10_counted 121 = .ok (.iaload, 1) := by decide +kernel
theorem dX10_counted_122 : decode cX10_counted 122 = .ok (.ireturn, 1) := by decide +kernel
theorem dX10_counted_123 : decode cX10_counted 123 = .ok (.aload_n 0, 1) := by decide +kernel
theorem dX10_counted_124 : decode cX10_counted 124 = .ok (.getfield 7, 3) := by decide +kernel
theorem dX10_counted_127 : decode cX10_counted 127 = .ok (.sipush 318, 3) := by decide +kernel
theorem dX10_counted_130 : decode cX10_counted 130 = .ok (.iaload, 1) := by decide +kernel
theorem dX10_counted_131 : decode cX10_counted 131 = .ok (.ireturn, 1) := by decide +kernel
theorem dX10_counted_132 : decode cX10_counted 132 = .ok (.aload_n 0, 1) := by decide +kernel
theorem dX10_counted_133 : decode cX10_counted 133 = .ok (.getfield 7, 3) := by decide +kernel
theorem dX10_counted_136 : decode cX10_counted 136 = .ok (.sipush 319, 3) := by decide +kernel
theorem dX10_counted_139 : decode cX10_counted 139 = .ok (.iload_n 1, 1) := by decide +kernel
theorem dX10_counted_140 : decode cX10_counted 140 = .ok (.iadd, 1) := by decide +kernel
theorem dX10_counted_141 : decode cX10_counted 141 = .ok (.bipush 7, 2) := by decide +kernel
theorem dX10_counted_143 : decode cX10_counted 143 = .ok (.isub, 1) := by decide +kernel
theorem dX10_counted_144 : decode cX10_counted 144 = .ok (.iaload, 1) := by decide +kernel
theorem dX10_counted_145 : decode cX10_counted 145 = .ok (.ireturn, 1) := by decide +kernel
theorem dX10_counted_146 : decode cX10_counted 146 = .ok (.aload_n 0, 1) := by decide +kernel
theorem dX10_counted_147 : decode cX10_counted 147 = .ok (.iload_n 1, 1) := by decide +kernel
theorem dX10_counted_148 : decode cX10_counted 148 = .ok (.bipush 9, 2) := by decide +kernel
theorem dX10_counted_150 : decode cX10_counted 150 = .ok (.isub, 1) := by decide +kernel
theorem dX10_counted_151 : decode cX10_counted 151 = .ok (.invokevirtual 170, 3) := by decide +kernel
theorem dX10_counted_154 : decode cX10_counted 154 = .ok (.ireturn, 1) := by decide +kernel
theorem dX10_counted_155 : decode cX10_counted 155 = .ok (.aload_n 0, 1) := by decide +kernel
theorem dX10_counted_156 : decode cX10_counted 156 = .ok (.getfield 7, 3) := by decide +kernel
theorem dX10_counted_159 : decode cX10_counted 159 = .ok (.bipush 96, 2) := by decide +kernel
theorem dX10_counted_161 : decode cX10_counted 161 = .ok (.iload_n 1, 1) := by decide +kernel
theorem dX10_counted_162 : decode cX10_counted 162 = .ok (.iadd, 1) := by decide +kernel
theorem dX10_counted_163 : decode cX10_counted 163 = .ok (.bipush 11, 2) := by decide +kernel
theorem dX10_counted_165 : decode cX10_counted 165 = .ok (.isub, 1) := by decide +kernel
theorem dX10_counted_166 : decode cX10_counted 166 = .ok (.iaload, 1) := by decide +kernel
theorem dX10_counted_167 : decode cX10_counted 167 = .ok (.ireturn, 1) := by decide +kernel
theorem dX10_counted_168 : decode cX10_counted 168 = .ok (.aload_n 0, 1) := by decide +kernel
theorem dX10_counted_169 : decode cX10_counted 169 = .ok (.getfield 68, 3) := by decide +kernel
theorem dX10_counted_172 : decode cX10_counted 172 = .ok (.ireturn, 1) := by decide +kernel
theorem dX10_count_0 : decode cX10_count 0 = .ok (.aload_n 0, 1) := by decide +kernel
theorem dX10_count_1 : decode cX10_count 1 = .ok (.iload_n 1, 1) := by decide +kernel
theorem dX10_count_2 : decode cX10_count 2 = .ok (.iconst 0, 1) := by decide +kernel
theorem dX10_count_3 : decode cX10_count 3 = .ok (.bipush 13, 2) := by decide +kernel
theorem dX10_count_5 : decode cX10_count 5 = .ok (.invokestatic 35, 3) := by decide +kernel
theorem dX10_count_8 : decode cX10_count 8 = .ok (.ifCond .eq 7, 3) := by decide +kernel
theorem dX10_count_11 : decode cX10_count 11 = .ok (.iconst 0, 1) := by decide +kernel
theorem dX10_count_12 : decode cX10_count 12 = .ok (.goto 4, 3) := by decide +kernel
theorem dX10_count_15 : decode cX10_count 15 = .ok (.iconst 1, 1) := by decide +kernel
theorem dX10_count_16 : decode cX10_count 16 = .ok (.putfield 31, 3) := by decide +kernel
theorem dX10_count_19 : decode cX10_count 19 = .ok (.aload_n 0, 1) := by decide +kernel
theorem dX10_count_20 : decode cX10_count 20 = .ok (.getfield 31, 3) := by decide +kernel
theorem dX10_count_23 : decode cX10_count 23 = .ok (.ifCond .le 7, 3) := by decide +kernel
theorem dX10_count_26 : decode cX10_count 26 = .ok (.iconst 0, 1) := by decide +kernel
theorem dX10_count_27 : decode cX10_count 27 = .ok (.goto 8, 3) := by decide +kernel
theorem dX10_count_30 : decode cX10_count 30 = .ok (.aload_n 0, 1) := by decide +kernel
theorem dX10_count_31 : decode cX10_count 31 = .ok (.iload_n 1, 1) := by decide +kernel
theorem dX10_count_32 : decode cX10_count 32 = .ok (.invokevirtual 173, 3) := by decide +kernel
theorem dX10_count_35 : decode cX10_count 35 = .ok (.ireturn, 1) := by decide +kernel
theorem dX10_sees_0 : decode cX10_sees 0 = .ok (.aload_n 0, 1) := by decide +kernel
theorem dX10_sees_1 : decode cX10_sees 1 = .ok (.iload_n 1, 1) := by decide +kernel
theorem dX10_sees_2 : decode cX10_sees 2 = .ok (.invokestatic 71, 3) := by decide +kernel
theorem dX10_sees_5 : decode cX10_sees 5 = .ok (.ifCond .eq 14, 3) := by decide +kernel
theorem dX10_sees_8 : decode cX10_sees 8 = .ok (.iload_n 2, 1) := by decide +kernel
theorem dX10_sees_9 : decode cX10_sees 9 = .ok (.invokestatic 71, 3) := by decide +kernel
theorem dX10_sees_12 : decode cX10_sees 12 = .ok (.ifCond .eq 7, 3) := by decide +kernel
theorem dX10_sees_15 : decode cX10_sees 15 = .ok (.iconst 0, 1) := by decide +kernel
theorem dX10_sees_16 : decode cX10_sees 16 = .ok (.goto 4, 3) := by decide +kernel
theorem dX10_sees_19 : decode cX10_sees 19 = .ok (.iconst 1, 1) := by decide +kernel
theorem dX10_sees_20 : decode cX10_sees 20 = .ok (.putfield 31, 3) := by decide +kernel
theorem dX10_sees_23 : decode cX10_sees 23 = .ok (.aload_n 0, 1) := by decide +kernel
theorem dX10_sees_24 : decode cX10_sees 24 = .ok (.getfield 31, 3) := by decide +kernel
theorem dX10_sees_27 : decode cX10_sees 27 = .ok (.ifCond .ne 16, 3) := by decide +kernel
theorem dX10_sees_30 : decode cX10_sees 30 = .ok (.aload_n 0, 1) := by decide +kernel
theorem dX10_sees_31 : decode cX10_sees 31 = .ok (.iload_n 1, 1) := by decide +kernel
theorem dX10_sees_32 : decode cX10_sees 32 = .ok (.iload_n 2, 1) := by decide +kernel
theorem dX10_sees_33 : decode cX10_sees 33 = .ok (.invokevirtual 64, 3) := by decide +kernel
theorem dX10_sees_36 : decode cX10_sees 36 = .ok (.ifCond .eq 7, 3) := by decide +kernel
theorem dX10_sees_39 : decode cX10_sees 39 = .ok (.iconst 1, 1) := by decide +kernel
theorem dX10_sees_40 : decode cX10_sees 40 = .ok (.goto 4, 3) := by decide +kernel
theorem dX10_sees_43 : decode cX10_sees 43 = .ok (.iconst 0, 1) := by decide +kernel
theorem dX10_sees_44 : decode cX10_sees 44 = .ok (.ireturn, 1) := by decide +kernel
theorem dX10_distance_0 : decode cX10_distance 0 = .ok (.aload_n 0, 1) := by decide +kernel
theorem dX10_distance_1 : decode cX10_distance 1 = .ok (.iload_n 1, 1) := by decide +kernel
theorem dX10_distance_2 : decode cX10_distance 2 = .ok (.invokestatic 71, 3) := by decide +kernel
theorem dX10_distance_5 : decode cX10_distance 5 = .ok (.ifCond .eq 14, 3) := by decide +kernel
theorem dX10_distance_8 : decode cX10_distance 8 = .ok (.iload_n 2, 1) := by decide +kernel
theorem dX10_distance_9 : decode cX10_distance 9 = .ok (.invokestatic 71, 3) := by decide +kernel
theorem dX10_distance_12 : decode cX10_distance 12 = .ok (.ifCond .eq 7, 3) := by decide +kernel
theorem dX10_distance_15 : decode cX10_distance 15 = .ok (.iconst 0, 1) := by decide +kernel
theorem dX10_distance_16 : decode cX10_distance 16 = .ok (.goto 4, 3) := by decide +kernel
theorem dX10_distance_19 : decode cX10_distance 19 = .ok (.iconst 1, 1) := by decide +kernel
theorem dX10_distance_20 : decode cX10_distance 20 = .ok (.putfield 31, 3) := by decide +kernel
theorem dX10_distance_23 : decode cX10_distance 23 = .ok (.aload_n 0, 1) := by decide +kernel
theorem dX10_distance_24 : decode cX10_distance 24 = .ok (.getfield 31, 3) := by decide +kernel
theorem dX10_distance_27 : decode cX10_distance 27 = .ok (.ifCond .le 7, 3) := by decide +kernel
theorem dX10_distance_30 : decode cX10_distance 30 = .ok (.iconst 0, 1) := by decide +kernel
theorem dX10_distance_31 : decode cX10_distance 31 = .ok (.goto 9, 3) := by decide +kernel
theorem dX10_distance_34 : decode cX10_distance 34 = .ok (.aload_n 0, 1) := by decide +kernel
theorem dX10_distance_35 : decode cX10_distance 35 = .ok (.iload_n 1, 1) := by decide +kernel
theorem dX10_distance_36 : decode cX10_distance 36 = .ok (.iload_n 2, 1) := by decide +kernel
theorem dX10_distance_37 : decode cX10_distance 37 = .ok (.invokevirtual 84, 3) := by decide +kernel
theorem dX10_distance_40 : decode cX10_distance 40 = .ok (.ireturn, 1) := by decide +kernel
theorem dX10_why_0 : decode cX10_why 0 = .ok (.aload_n 0, 1) := by decide +kernel
theorem dX10_why_1 : decode cX10_why 1 = .ok (.aload_n 0, 1) := by decide +kernel
theorem dX10_why_2 : decode cX10_why 2 = .ok (.iload_n 1, 1) := by decide +kernel
theorem dX10_why_3 : decode cX10_why 3 = .ok (.invokevirtual 90, 3) := by decide +kernel
theorem dX10_why_6 : decode cX10_why 6 = .ok (.ifCond .eq 7, 3) := by decide +kernel
theorem dX10_why_9 : decode cX10_why 9 = .ok (.iconst 0, 1) := by decide +kernel
theorem dX10_why_10 : decode cX10_why 10 = .ok (.goto 4, 3) := by decide +kernel
theorem dX10_why_13 : decode cX10_why 13 = .ok (.iconst 1, 1) := by decide +kernel
theorem dX10_why_14 : decode cX10_why 14 = .ok (.putfield 31, 3) := by decide +kernel
theorem dX10_why_17 : decode cX10_why 17 = .ok (.aload_n 0, 1) := by decide +kernel
theorem dX10_why_18 : decode cX10_why 18 = .ok (.getfield 31, 3) := by decide +kernel
theorem dX10_why_21 : decode cX10_why 21 = .ok (.ifCond .le 7, 3) := by decide +kernel
theorem dX10_why_24 : decode cX10_why 24 = .ok (.iconst 0, 1) := by decide +kernel
theorem dX10_why_25 : decode cX10_why 25 = .ok (.goto 8, 3) := by decide +kernel
theorem dX10_why_28 : decode cX10_why 28 = .ok (.aload_n 0, 1) := by decide +kernel
theorem dX10_why_29 : decode cX10_why 29 = .ok (.iload_n 1, 1) := by decide +kernel
theorem dX10_why_30 : decode cX10_why 30 = .ok (.invokevirtual 93, 3) := by decide +kernel
theorem dX10_why_33 : decode cX10_why 33 = .ok (.ireturn, 1) := by decide +kernel
theorem dX10_timesFrom_0 : decode cX10_timesFrom 0 = .ok (.aload_n 0, 1) := by decide +kernel
theorem dX10_timesFrom_1 : decode cX10_timesFrom 1 = .ok (.iload_n 1, 1) := by decide +kernel
theorem dX10_timesFrom_2 : decode cX10_timesFrom 2 = .ok (.iconst (-1), 1) := by decide +kernel
theorem dX10_timesFrom_3 : decode cX10_timesFrom 3 = .ok (.invokevirtual 60, 3) := by decide +kernel
theorem dX10_timesFrom_6 : decode cX10_timesFrom 6 = .ok (.iconst 0, 1) := by decide +kernel
theorem dX10_timesFrom_7 : decode cX10_timesFrom 7 = .ok (.istore_n 3, 1) := by decide +kernel
theorem dX10_timesFrom_8 : decode cX10_timesFrom 8 = .ok (.iconst 0, 1) := by decide +kernel
theorem dX10_timesFrom_9 : decode cX10_timesFrom 9 = .ok (.istore 4, 2) := by decide +kernel
theorem dX10_timesFrom_11 : decode cX10_timesFrom 11 = .ok (.iload 4, 2) := by decide +kernel
theorem dX10_timesFrom_13 : decode cX10_timesFrom 13 = .ok (.aload_n 0, 1) := by decide +kernel
theorem dX10_timesFrom_14 : decode cX10_timesFrom 14 = .ok (.getfield 7, 3) := by decide +kernel
theorem dX10_timesFrom_17 : decode cX10_timesFrom 17 = .ok (.bipush 98, 2) := by decide +kernel
theorem dX10_timesFrom_19 : decode cX10_timesFrom 19 = .ok (.iaload, 1) := by decide +kernel
theorem dX10_timesFrom_20 : decode cX10_timesFrom 20 = .ok (.if_icmp .ge 82, 3) := by decide +kernel
theorem dX10_timesFrom_23 : decode cX10_timesFrom 23 = .ok (.aload_n 0, 1) := by decide +kernel
theorem dX10_timesFrom_24 : decode cX10_timesFrom 24 = .ok (.iload 4, 2) := by decide +kernel
theorem dX10_timesFrom_26 : decode cX10_timesFrom 26 = .ok (.invokevirtual 50, 3) := by decide +kernel
theorem dX10_timesFrom_29 : decode cX10_timesFrom 29 = .ok (.ifCond .ne 67, 3) := by decide +kernel
theorem dX10_timesFrom_32 : decode cX10_timesFrom 32 = .ok (.aload_n 0, 1) := by decide +kernel
theorem dX10_timesFrom_33 : decode cX10_timesFrom 33 = .ok (.iload 4, 2) := by decide +kernel
theorem dX10_timesFrom_35 : decode cX10_timesFrom 35 = .ok (.iconst 0, 1) := by decide +kernel
theorem dX10_timesFrom_36 : decode cX10_timesFrom 36 = .ok (.invokevirtual 39, 3) := by decide +kernel
theorem dX10_timesFrom_39 : decode cX10_timesFrom 39 = .ok (.iload_n 2, 1) := by decide +kernel
theorem dX10_timesFrom_40 : decode cX10_timesFrom 40 = .ok (.if_icmp .ne 56, 3) := by decide +kernel
theorem dX10_timesFrom_43 : decode cX10_timesFrom 43 = .ok (.aload_n 0, 1) := by decide +kernel
theorem dX10_timesFrom_44 : decode cX10_timesFrom 44 = .ok (.iload 4, 2) := by decide +kernel
theorem dX10_timesFrom_46 : decode cX10_timesFrom 46 = .ok (.iconst 1, 1) := by decide +kernel
theorem dX10_timesFrom_47 : decode cX10_timesFrom 47 = .ok (.invokevirtual 39, 3) := by decide +kernel
theorem dX10_timesFrom_50 : decode cX10_timesFrom 50 = .ok (.istore 5, 2) := by decide +kernel
theorem dX10_timesFrom_52 : decode cX10_timesFrom 52 = .ok (.iload_n 3, 1) := by decide +kernel
theorem dX10_timesFrom_53 : decode cX10_timesFrom 53 = .ok (.aload_n 0, 1) := by decide +kernel
theorem dX10_timesFrom_54 : decode cX10_timesFrom 54 = .ok (.iload_n 1, 1) := by decide +kernel
theorem dX10_timesFrom_55 : decode cX10_timesFrom 55 = .ok (.iload 5, 2) := by decide +kernel
theorem dX10_timesFrom_57 : decode cX10_timesFrom 57 = .ok (.invokevirtual 64, 3) := by decide +kernel
theorem dX10_timesFrom_60 : decode cX10_timesFrom 60 = .ok (.ifCond .eq 7, 3) := by decide +kernel
theorem dX10_timesFrom_63 : decode cX10_timesFrom 63 = .ok (.iconst 1, 1) := by decide +kernel
theorem dX10_timesFrom_64 : decode cX10_timesFrom 64 = .ok (.goto 30, 3) := by decide +kernel
theorem dX10_timesFrom_67 : decode cX10_timesFrom 67 = .ok (.aload_n 0, 1) := by decide +kernel
theorem dX10_timesFrom_68 : decode cX10_timesFrom 68 = .ok (.getfield 19, 3) := by decide +kernel
theorem dX10_timesFrom_71 : decode cX10_timesFrom 71 = .ok (.iload 5, 2) := by decide +kernel
theorem dX10_timesFrom_73 : decode cX10_timesFrom 73 = .ok (.iaload, 1) := by decide +kernel
theorem dX10_timesFrom_74 : decode cX10_timesFrom 74 = .ok (.iconst (-1), 1) := by decide +kernel
theorem dX10_timesFrom_75 : decode cX10_timesFrom 75 = .ok (.if_icmp .ne 8, 3) := by decide +kernel
theorem dX10_timesFrom_78 : decode cX10_timesFrom 78 = .ok (.bipush 20, 2) := by decide +kernel
theorem dX10_timesFrom_80 : decode cX10_timesFrom 80 = .ok (.goto 14, 3) := by decide +kernel
theorem dX10_timesFrom_83 : decode cX10_timesFrom 83 = .ok (.aload_n 0, 1) := by decide +kernel
theorem dX10_timesFrom_84 : decode cX10_timesFrom 84 = .ok (.getfield 19, 3) := by decide +kernel
theorem dX10_timesFrom_87 : decode cX10_timesFrom 87 = .ok (.iload 5, 2) := by decide +kernel
theorem dX10_timesFrom_89 : decode cX10_timesFrom 89 = .ok (.iaload, 1) := by decide +kernel
theorem dX10_timesFrom_90 : decode cX10_timesFrom 90 = .ok (.iconst 2, 1) := by decide +kernel
theorem dX10_timesFrom_91 : decode cX10_timesFrom 91 = .ok (.iadd, 1) := by decide +kernel
theorem dX10_timesFrom_92 : decode cX10_timesFrom 92 = .ok (.iconst 3, 1) := by decide +kernel
theorem dX10_timesFrom_93 : decode cX10_timesFrom 93 = .ok (.idiv, 1) := by decide +kernel
theorem dX10_timesFrom_94 : decode cX10_timesFrom 94 = .ok (.iadd, 1) := by decide +kernel
theorem dX10_timesFrom_95 : decode cX10_timesFrom 95 = .ok (.istore_n 3, 1) := by decide +kernel
theorem dX10_timesFrom_96 : decode cX10_timesFrom 96 = .ok (.iinc 4 1, 3) := by decide +kernel
theorem dX10_timesFrom_99 : decode cX10_timesFrom 99 = .ok (.goto (-88), 3) := by decide +kernel
theorem dX10_timesFrom_102 : decode cX10_timesFrom 102 = .ok (.iload_n 3, 1) := by decide +kernel
theorem dX10_timesFrom_103 : decode cX10_timesFrom 103 = .ok (.ireturn, 1) := by decide +kernel
theorem dX10_bestPost_0 : decode cX10_bestPost 0 = .ok (.aload_n 0, 1) := by decide +kernel
theorem dX10_bestPost_1 : decode cX10_bestPost 1 = .ok (.iload_n 1, 1) := by decide +kernel
theorem dX10_bestPost_2 : decode cX10_bestPost 2 = .ok (.invokestatic 77, 3) := by decide +kernel
theorem dX10_bestPost_5 : decode cX10_bestPost 5 = .ok (.ifCond .eq 7, 3) := by decide +kernel
theorem dX10_bestPost_8 : decode cX10_bestPost 8 = .ok (.iconst 0, 1) := by decide +kernel
theorem dX10_bestPost_9 : decode cX10_bestPost 9 = .ok (.goto 4, 3) := by decide +kernel
theorem dX10_bestPost_12 : decode cX10_bestPost 12 = .ok (.iconst 1, 1) := by decide +kernel
theorem dX10_bestPost_13 : decode cX10_bestPost 13 = .ok (.putfield 31, 3) := by decide +kernel
theorem dX10_bestPost_16 : decode cX10_bestPost 16 = .ok (.aload_n 0, 1) := by decide +kernel
theorem dX10_bestPost_17 : decode cX10_bestPost 17 = .ok (.getfield 31, 3) := by decide +kernel
theorem dX10_bestPost_20 : decode cX10_bestPost 20 = .ok (.ifCond .le 5, 3) := by decide +kernel
theorem dX10_bestPost_23 : decode cX10_bestPost 23 = .ok (.iconst 0, 1) := by decide +kernel
theorem dX10_bestPost_24 : decode cX10_bestPost 24 = .ok (.ireturn, 1) := by decide +kernel
theorem dX10_bestPost_25 : decode cX10_bestPost 25 = .ok (.iconst 0, 1) := by decide +kernel
theorem dX10_bestPost_26 : decode cX10_bestPost 26 = .ok (.istore_n 2, 1) := by decide +kernel
theorem dX10_bestPost_27 : decode cX10_bestPost 27 = .ok (.aload_n 0, 1) := by decide +kernel
theorem dX10_bestPost_28 : decode cX10_bestPost 28 = .ok (.iconst 0, 1) := by decide +kernel
theorem dX10_bestPost_29 : decode cX10_bestPost 29 = .ok (.iload_n 1, 1) := by decide +kernel
theorem dX10_bestPost_30 : decode cX10_bestPost 30 = .ok (.invokevirtual 176, 3) := by decide +kernel
theorem dX10_bestPost_33 : decode cX10_bestPost 33 = .ok (.istore_n 3, 1) := by decide +kernel
theorem dX10_bestPost_34 : decode cX10_bestPost 34 = .ok (.iconst 1, 1) := by decide +kernel
theorem dX10_bestPost_35 : decode cX10_bestPost 35 = .ok (.istore 4, 2) := by decide +kernel
theorem dX10_bestPost_37 : decode cX10_bestPost 37 = .ok (.iload 4, 2) := by decide +kernel
theorem dX10_bestPost_39 : decode cX10_bestPost 39 = .ok (.bipush 96, 2) := by decide +kernel
theorem dX10_bestPost_41 : decode cX10_bestPost 41 = .ok (.if_icmp .ge 44, 3) := by decide +kernel
theorem dX10_bestPost_44 : decode cX10_bestPost 44 = .ok (.aload_n 0, 1) := by decide +kernel
theorem dX10_bestPost_45 : decode cX10_bestPost 45 = .ok (.iload 4, 2) := by decide +kernel
theorem dX10_bestPost_47 : decode cX10_bestPost 47 = .ok (.iload_n 1, 1) := by decide +kernel
theorem dX10_bestPost_48 : decode cX10_bestPost 48 = .ok (.invokevirtual 176, 3) := by decide +kernel
theorem dX10_bestPost_51 : decode cX10_bestPost 51 = .ok (.istore 5, 2) := by decide +kernel
theorem dX10_bestPost_53 : decode cX10_bestPost 53 = .ok (.iload 5, 2) := by decide +kernel
theorem dX10_bestPost_55 : decode cX10_bestPost 55 = .ok (.iload_n 3, 1) := by decide +kernel
theorem dX10_bestPost_56 : decode cX10_bestPost 56 = .ok (.if_icmp .ge 8, 3) := by decide +kernel
theorem dX10_bestPost_59 : decode cX10_bestPost 59 = .ok (.iload 4, 2) := by decide +kernel
theorem dX10_bestPost_61 : decode cX10_bestPost 61 = .ok (.goto 4, 3) := by decide +kernel
theorem dX10_bestPost_64 : decode cX10_bestPost 64 = .ok (.iload_n 2, 1) := by decide +kernel
theorem dX10_bestPost_65 : decode cX10_bestPost 65 = .ok (.istore_n 2, 1) := by decide +kernel
theorem dX10_bestPost_66 : decode cX10_bestPost 66 = .ok (.iload 5, 2) := by decide +kernel
theorem dX10_bestPost_68 : decode cX10_bestPost 68 = .ok (.iload_n 3, 1) := by decide +kernel
theorem dX10_bestPost_69 : decode cX10_bestPost 69 = .ok (.if_icmp .ge 8, 3) := by decide +kernel
theorem dX10_bestPost_72 : decode cX10_bestPost 72 = .ok (.iload 5, 2) := by decide +kernel
theorem dX10_bestPost_74 : decode cX10_bestPost 74 = .ok (.goto 4, 3) := by decide +kernel
theorem dX10_bestPost_77 : decode cX10_bestPost 77 = .ok (.iload_n 3, 1) := by decide +kernel
theorem dX10_bestPost_78 : decode cX10_bestPost 78 = .ok (.istore_n 3, 1) := by decide +kernel
theorem dX10_bestPost_79 : decode cX10_bestPost 79 = .ok (.iinc 4 1, 3) := by decide +kernel
theorem dX10_bestPost_82 : decode cX10_bestPost 82 = .ok (.goto (-45), 3) := by decide +kernel
theorem dX10_bestPost_85 : decode cX10_bestPost 85 = .ok (.iload_n 2, 1) := by decide +kernel
theorem dX10_bestPost_86 : decode cX10_bestPost 86 = .ok (.ireturn, 1) := by decide +kernel
theorem dX10_passed_0 : decode cX10_passed 0 = .ok (.aload_n 0, 1) := by decide +kernel
theorem dX10_passed_1 : decode cX10_passed 1 = .ok (.invokevirtual 179, 3) := by decide +kernel
theorem dX10_passed_4 : decode cX10_passed 4 = .ok (.iconst 0, 1) := by decide +kernel
theorem dX10_passed_5 : decode cX10_passed 5 = .ok (.istore_n 3, 1) := by decide +kernel
theorem dX10_passed_6 : decode cX10_passed 6 = .ok (.iload_n 3, 1) := by decide +kernel
theorem dX10_passed_7 : decode cX10_passed 7 = .ok (.iload_n 1, 1) := by decide +kernel
theorem dX10_passed_8 : decode cX10_passed 8 = .ok (.if_icmp .ge 13, 3) := by decide +kernel
theorem dX10_passed_11 : decode cX10_passed 11 = .ok (.aload_n 0, 1) := by decide +kernel
theorem dX10_passed_12 : decode cX10_passed 12 = .ok (.invokevirtual 121, 3) := by decide +kernel
theorem dX10_passed_15 : decode cX10_passed 15 = .ok (.iinc 3 1, 3) := by decide +kernel
theorem dX10_passed_18 : decode cX10_passed 18 = .ok (.goto (-12), 3) := by decide +kernel
theorem dX10_passed_21 : decode cX10_passed 21 = .ok (.aload_n 0, 1) := by decide +kernel
theorem dX10_passed_22 : decode cX10_passed 22 = .ok (.iload_n 2, 1) := by decide +kernel
theorem dX10_passed_23 : decode cX10_passed 23 = .ok (.invokevirtual 173, 3) := by decide +kernel
theorem dX10_passed_26 : decode cX10_passed 26 = .ok (.istore_n 3, 1) := by decide +kernel
theorem dX10_passed_27 : decode cX10_passed 27 = .ok (.aload_n 0, 1) := by decide +kernel
theorem dX10_passed_28 : decode cX10_passed 28 = .ok (.invokevirtual 182, 3) := by decide +kernel
theorem dX10_passed_31 : decode cX10_passed 31 = .ok (.iload_n 3, 1) := by decide +kernel
theorem dX10_passed_32 : decode cX10_passed 32 = .ok (.ireturn, 1) := by decide +kernel
theorem dX10_ifPassed_0 : decode cX10_ifPassed 0 = .ok (.iload_n 1, 1) := by decide +kernel
theorem dX10_ifPassed_1 : decode cX10_ifPassed 1 = .ok (.iconst 1, 1) := by decide +kernel
theorem dX10_ifPassed_2 : decode cX10_ifPassed 2 = .ok (.bipush 50, 2) := by decide +kernel
theorem dX10_ifPassed_4 : decode cX10_ifPassed 4 = .ok (.invokestatic 35, 3) := by decide +kernel
theorem dX10_ifPassed_7 : decode cX10_ifPassed 7 = .ok (.ifCond .eq 27, 3) := by decide +kernel
theorem dX10_ifPassed_10 : decode cX10_ifPassed 10 = .ok (.iload_n 2, 1) := by decide +kernel
theorem dX10_ifPassed_11 : decode cX10_ifPassed 11 = .ok (.iconst 2, 1) := by decide +kernel
theorem dX10_ifPassed_12 : decode cX10_ifPassed 12 = .ok (.iconst 3, 1) := by decide +kernel
theorem dX10_ifPassed_13 : decode cX10_ifPassed 13 = .ok (.invokestatic 35, 3) := by decide +kernel
theorem dX10_ifPassed_16 : decode cX10_ifPassed 16 = .ok (.ifCond .ne 14, 3) := by decide +kernel
theorem dX10_ifPassed_19 : decode cX10_ifPassed 19 = .ok (.iload_n 2, 1) := by decide +kernel
theorem dX10_ifPassed_20 : decode cX10_ifPassed 20 = .ok (.bipush 6, 2) := by decide +kernel
theorem dX10_ifPassed_22 : decode cX10_ifPassed 22 = .ok (.bipush 10, 2) := by decide +kernel
theorem dX10_ifPassed_24 : decode cX10_ifPassed 24 = .ok (.invokestatic 35, 3) := by decide +kernel
theorem dX10_ifPassed_27 : decode cX10_ifPassed 27 = .ok (.ifCond .eq 7, 3) := by decide +kernel
theorem dX10_ifPassed_30 : decode cX10_ifPassed 30 = .ok (.iconst 1, 1) := by decide +kernel
theorem dX10_ifPassed_31 : decode cX10_ifPassed 31 = .ok (.goto 4, 3) := by decide +kernel
theorem dX10_ifPassed_34 : decode cX10_ifPassed 34 = .ok (.iconst 0, 1) := by decide +kernel
theorem dX10_ifPassed_35 : decode cX10_ifPassed 35 = .ok (.istore_n 3, 1) := by decide +kernel
theorem dX10_ifPassed_36 : decode cX10_ifPassed 36 = .ok (.aload_n 0, 1) := by decide +kernel
theorem dX10_ifPassed_37 : decode cX10_ifPassed 37 = .ok (.iload_n 3, 1) := by decide +kernel
theorem dX10_ifPassed_38 : decode cX10_ifPassed 38 = .ok (.ifCond .eq 7, 3) := by decide +kernel
theorem dX10_ifPassed_41 : decode cX10_ifPassed 41 = .ok (.iconst 0, 1) := by decide +kernel
theorem dX10_ifPassed_42 : decode cX10_ifPassed 42 = .ok (.goto 4, 3) := by decide +kernel
theorem dX10_ifPassed_45 : decode cX10_ifPassed 45 = .ok (.iconst 1, 1) := by decide +kernel
theorem dX10_ifPassed_46 : decode cX10_ifPassed 46 = .ok (.putfield 31, 3) := by decide +kernel
theorem dX10_ifPassed_49 : decode cX10_ifPassed 49 = .ok (.aload_n 0, 1) := by decide +kernel
theorem dX10_ifPassed_50 : decode cX10_ifPassed 50 = .ok (.getfield 31, 3) := by decide +kernel
theorem dX10_ifPassed_53 : decode cX10_ifPassed 53 = .ok (.ifCond .le 7, 3) := by decide +kernel
theorem dX10_ifPassed_56 : decode cX10_ifPassed 56 = .ok (.iconst 0, 1) := by decide +kernel
theorem dX10_ifPassed_57 : decode cX10_ifPassed 57 = .ok (.goto 9, 3) := by decide +kernel
theorem dX10_ifPassed_60 : decode cX10_ifPassed 60 = .ok (.aload_n 0, 1) := by decide +kernel
theorem dX10_ifPassed_61 : decode cX10_ifPassed 61 = .ok (.iload_n 1, 1) := by decide +kernel
theorem dX10_ifPassed_62 : decode cX10_ifPassed 62 = .ok (.iload_n 2, 1) := by decide +kernel
theorem dX10_ifPassed_63 : decode cX10_ifPassed 63 = .ok (.invokevirtual 185, 3) := by decide +kernel
theorem dX10_ifPassed_66 : decode cX10_ifPassed 66 = .ok (.ireturn, 1) := by decide +kernel
theorem dX10_isAtGoal_0 : decode cX10_isAtGoal 0 = .ok (.aload_n 0, 1) := by decide +kernel
theorem dX10_isAtGoal_1 : decode cX10_isAtGoal 1 = .ok (.iload_n 1, 1) := by decide +kernel
theorem dX10_isAtGoal_2 : decode cX10_isAtGoal 2 = .ok (.invokevirtual 50, 3) := by decide +kernel
theorem dX10_isAtGoal_5 : decode cX10_isAtGoal 5 = .ok (.ifCond .ne 22, 3) := by decide +kernel
theorem dX10_isAtGoal_8 : decode cX10_isAtGoal 8 = .ok (.aload_n 0, 1) := by decide +kernel
theorem dX10_isAtGoal_9 : decode cX10_isAtGoal 9 = .ok (.iload_n 1, 1) := by decide +kernel
theorem dX10_isAtGoal_10 : decode cX10_isAtGoal 10 = .ok (.iconst 1, 1) := by decide +kernel
theorem dX10_isAtGoal_11 : decode cX10_isAtGoal 11 = .ok (.invokevirtual 39, 3) := by decide +kernel
theorem dX10_isAtGoal_14 : decode cX10_isAtGoal 14 = .ok (.aload_n 0, 1) := by decide +kernel
theorem dX10_isAtGoal_15 : decode cX10_isAtGoal 15 = .ok (.iload_n 1, 1) := by decide +kernel
theorem dX10_isAtGoal_16 : decode cX10_isAtGoal 16 = .ok (.iconst 3, 1) := by decide +kernel
theorem dX10_isAtGoal_17 : decode cX10_isAtGoal 17 = .ok (.invokevirtual 39, 3) := by decide +kernel
theorem dX10_isAtGoal_20 : decode cX10_isAtGoal 20 = .ok (.if_icmp .ne 7, 3) := by decide +kernel
theorem dX10_isAtGoal_23 : decode cX10_isAtGoal 23 = .ok (.iconst 1, 1) := by decide +kernel
theorem dX10_isAtGoal_24 : decode cX10_isAtGoal 24 = .ok (.goto 4, 3) := by decide +kernel
theorem dX10_isAtGoal_27 : decode cX10_isAtGoal 27 = .ok (.iconst 0, 1) := by decide +kernel
theorem dX10_isAtGoal_28 : decode cX10_isAtGoal 28 = .ok (.ireturn, 1) := by decide +kernel
theorem dX10_arrivesIn_0 : decode cX10_arrivesIn 0 = .ok (.aload_n 0, 1) := by decide +kernel
theorem dX10_arrivesIn_1 : decode cX10_arrivesIn 1 = .ok (.aload_n 0, 1) := by decide +kernel
theorem dX10_arrivesIn_2 : decode cX10_arrivesIn 2 = .ok (.iload_n 1, 1) := by decide +kernel
theorem dX10_arrivesIn_3 : decode cX10_arrivesIn 3 = .ok (.invokevirtual 90, 3) := by decide +kernel
theorem dX10_arrivesIn_6 : decode cX10_arrivesIn 6 = .ok (.ifCond .eq 7, 3) := by decide +kernel
theorem dX10_arrivesIn_9 : decode cX10_arrivesIn 9 = .ok (.iconst 0, 1) := by decide +kernel
theorem dX10_arrivesIn_10 : decode cX10_arrivesIn 10 = .ok (.goto 4, 3) := by decide +kernel
theorem dX10_arrivesIn_13 : decode cX10_arrivesIn 13 = .ok (.iconst 1, 1) := by decide +kernel
theorem dX10_arrivesIn_14 : decode cX10_arrivesIn 14 = .ok (.putfield 31, 3) := by decide +kernel
theorem dX10_arrivesIn_17 : decode cX10_arrivesIn 17 = .ok (.aload_n 0, 1) := by decide +kernel
theorem dX10_arrivesIn_18 : decode cX10_arrivesIn 18 = .ok (.getfield 31, 3) := by decide +kernel
theorem dX10_arrivesIn_21 : decode cX10_arrivesIn 21 = .ok (.ifCond .le 5, 3) := by decide +kernel
theorem dX10_arrivesIn_24 : decode cX10_arrivesIn 24 = .ok (.iconst 0, 1) := by decide +kernel
theorem dX10_arrivesIn_25 : decode cX10_arrivesIn 25 = .ok (.ireturn, 1) := by decide +kernel
theorem dX10_arrivesIn_26 : decode cX10_arrivesIn 26 = .ok (.aload_n 0, 1) := by decide +kernel
theorem dX10_arrivesIn_27 : decode cX10_arrivesIn 27 = .ok (.invokevirtual 179, 3) := by decide +kernel
theorem dX10_arrivesIn_30 : decode cX10_arrivesIn 30 = .ok (.iconst 0, 1) := by decide +kernel
theorem dX10_arrivesIn_31 : decode cX10_arrivesIn 31 = .ok (.istore_n 2, 1) := by decide +kernel
theorem dX10_arrivesIn_32 : decode cX10_arrivesIn 32 = .ok (.iload_n 2, 1) := by decide +kernel
theorem dX10_arrivesIn_33 : decode cX10_arrivesIn 33 = .ok (.bipush 60, 2) := by decide +kernel
theorem dX10_arrivesIn_35 : decode cX10_arrivesIn 35 = .ok (.if_icmp .gt 21, 3) := by decide +kernel
theorem dX10_arrivesIn_38 : decode cX10_arrivesIn 38 = .ok (.aload_n 0, 1) := by decide +kernel
theorem dX10_arrivesIn_39 : decode cX10_arrivesIn 39 = .ok (.iload_n 1, 1) := by decide +kernel
theorem dX10_arrivesIn_40 : decode cX10_arrivesIn 40 = .ok (.invokevirtual 188, 3) := by decide +kernel
theorem dX10_arrivesIn_43 : decode cX10_arrivesIn 43 = .ok (.ifCond .ne 13, 3) := by decide +kernel
theorem dX10_arrivesIn_46 : decode cX10_arrivesIn 46 = .ok (.aload_n 0, 1) := by decide +kernel
theorem dX10_arrivesIn_47 : decode cX10_arrivesIn 47 = .ok (.invokevirtual 121, 3) := by decide +kernel
theorem dX10_arrivesIn_50 : decode cX10_arrivesIn 50 = .ok (.iinc 2 1, 3) := by decide +kernel
theorem dX10_arrivesIn_53 : decode cX10_arrivesIn 53 = .ok (.goto (-21), 3) := by decide +kernel
theorem dX10_arrivesIn_56 : decode cX10_arrivesIn 56 = .ok (.aload_n 0, 1) := by decide +kernel
theorem dX10_arrivesIn_57 : decode cX10_arrivesIn 57 = .ok (.invokevirtual 182, 3) := by decide +kernel
theorem dX10_arrivesIn_60 : decode cX10_arrivesIn 60 = .ok (.iload_n 2, 1) := by decide +kernel
theorem dX10_arrivesIn_61 : decode cX10_arrivesIn 61 = .ok (.bipush 60, 2) := by decide +kernel
theorem dX10_arrivesIn_63 : decode cX10_arrivesIn 63 = .ok (.if_icmp .le 7, 3) := by decide +kernel
theorem dX10_arrivesIn_66 : decode cX10_arrivesIn 66 = .ok (.iconst (-1), 1) := by decide +kernel
theorem dX10_arrivesIn_67 : decode cX10_arrivesIn 67 = .ok (.goto 4, 3) := by decide +kernel
theorem dX10_arrivesIn_70 : decode cX10_arrivesIn 70 = .ok (.iload_n 2, 1) := by decide +kernel
theorem dX10_arrivesIn_71 : decode cX10_arrivesIn 71 = .ok (.ireturn, 1) := by decide +kernel
theorem dX10_leftNow_0 : decode cX10_leftNow 0 = .ok (.iconst 0, 1) := by decide +kernel
theorem dX10_leftNow_1 : decode cX10_leftNow 1 = .ok (.istore_n 1, 1) := by decide +kernel
theorem dX10_leftNow_2 : decode cX10_leftNow 2 = .ok (.iconst 0, 1) := by decide +kernel
theorem dX10_leftNow_3 : decode cX10_leftNow 3 = .ok (.istore_n 2, 1) := by decide +kernel
theorem dX10_leftNow_4 : decode cX10_leftNow 4 = .ok (.iload_n 2, 1) := by decide +kernel
theorem dX10_leftNow_5 : decode cX10_leftNow 5 = .ok (.aload_n 0, 1) := by decide +kernel
theorem dX10_leftNow_6 : decode cX10_leftNow 6 = .ok (.getfield 7, 3) := by decide +kernel
theorem dX10_leftNow_9 : decode cX10_leftNow 9 = .ok (.bipush 98, 2) := by decide +kernel
theorem dX10_leftNow_11 : decode cX10_leftNow 11 = .ok (.iaload, 1) := by decide +kernel
theorem dX10_leftNow_12 : decode cX10_leftNow 12 = .ok (.if_icmp .ge 18, 3) := by decide +kernel
theorem dX10_leftNow_15 : decode cX10_leftNow 15 = .ok (.iload_n 1, 1) := by decide +kernel
theorem dX10_leftNow_16 : decode cX10_leftNow 16 = .ok (.aload_n 0, 1) := by decide +kernel
theorem dX10_leftNow_17 : decode cX10_leftNow 17 = .ok (.iload_n 2, 1) := by decide +kernel
theorem dX10_leftNow_18 : decode cX10_leftNow 18 = .ok (.iconst 5, 1) := by decide +kernel
theorem dX10_leftNow_19 : decode cX10_leftNow 19 = .ok (.invokevirtual 39, 3) := by decide +kernel
theorem dX10_leftNow_22 : decode cX10_leftNow 22 = .ok (.iadd, 1) := by decide +kernel
theorem dX10_leftNow_23 : decode cX10_leftNow 23 = .ok (.istore_n 1, 1) := by decide +kernel
theorem dX10_leftNow_24 : decode cX10_leftNow 24 = .ok (.iinc 2 1, 3) := by decide +kernel
theorem dX10_leftNow_27 : decode cX10_leftNow 27 = .ok (.goto (-23), 3) := by decide +kernel
theorem dX10_leftNow_30 : decode cX10_leftNow 30 = .ok (.iload_n 1, 1) := by decide +kernel
theorem dX10_leftNow_31 : decode cX10_leftNow 31 = .ok (.ifCond .ne 7, 3) := by decide +kernel
theorem dX10_leftNow_34 : decode cX10_leftNow 34 = .ok (.dconst 1, 1) := by decide +kernel
theorem dX10_leftNow_35 : decode cX10_leftNow 35 = .ok (.goto 20, 3) := by decide +kernel
theorem dX10_leftNow_38 : decode cX10_leftNow 38 = .ok (.dconst 1, 1) := by decide +kernel
theorem dX10_leftNow_39 : decode cX10_leftNow 39 = .ok (.aload_n 0, 1) := by decide +kernel
theorem dX10_leftNow_40 : decode cX10_leftNow 40 = .ok (.iconst 0, 1) := by decide +kernel
theorem dX10_leftNow_41 : decode cX10_leftNow 41 = .ok (.invokevirtual 170, 3) := by decide +kernel
theorem dX10_leftNow_44 : decode cX10_leftNow 44 = .ok (.aload_n 0, 1) := by decide +kernel
theorem dX10_leftNow_45 : decode cX10_leftNow 45 = .ok (.iconst 1, 1) := by decide +kernel
theorem dX10_leftNow_46 : decode cX10_leftNow 46 = .ok (.invokevirtual 170, 3) := by decide +kernel
theorem dX10_leftNow_49 : decode cX10_leftNow 49 = .ok (.iadd, 1) := by decide +kernel
theorem dX10_leftNow_50 : decode cX10_leftNow 50 = .ok (.i2d, 1) := by decide +kernel
theorem dX10_leftNow_51 : decode cX10_leftNow 51 = .ok (.dmul, 1) := by decide +kernel
theorem dX10_leftNow_52 : decode cX10_leftNow 52 = .ok (.iload_n 1, 1) := by decide +kernel
theorem dX10_leftNow_53 : decode cX10_leftNow 53 = .ok (.i2d, 1) := by decide +kernel
theorem dX10_leftNow_54 : decode cX10_leftNow 54 = .ok (.ddiv, 1) := by decide +kernel
theorem dX10_leftNow_55 : decode cX10_leftNow 55 = .ok (.dreturn, 1) := by decide +kernel
theorem dX10_strengthLeft_0 : decode cX10_strengthLeft 0 = .ok (.aload_n 0, 1) := by decide +kernel
theorem dX10_strengthLeft_1 : decode cX10_strengthLeft 1 = .ok (.iconst 0, 1) := by decide +kernel
theorem dX10_strengthLeft_2 : decode cX10_strengthLeft 2 = .ok (.putfield 31, 3) := by decide +kernel
theorem dX10_strengthLeft_5 : decode cX10_strengthLeft 5 = .ok (.aload_n 0, 1) := by decide +kernel
theorem dX10_strengthLeft_6 : decode cX10_strengthLeft 6 = .ok (.invokevirtual 191, 3) := by decide +kernel
theorem dX10_strengthLeft_9 : decode cX10_strengthLeft 9 = .ok (.dreturn, 1) := by decide +kernel
theorem dX10_mix_0 : decode cX10_mix 0 = .ok (.aload_n 0, 1) := by decide +kernel
theorem dX10_mix_1 : decode cX10_mix 1 = .ok (.ldc2_w 195, 3) := by decide +kernel
theorem dX10_mix_4 : decode cX10_mix 4 = .ok (.aload_n 0, 1) := by decide +kernel
theorem dX10_mix_5 : decode cX10_mix 5 = .ok (.getfield 197, 3) := by decide +kernel
theorem dX10_mix_8 : decode cX10_mix 8 = .ok (.lmul, 1) := by decide +kernel
theorem dX10_mix_9 : decode cX10_mix 9 = .ok (.lload_n 1, 1) := by decide +kernel
theorem dX10_mix_10 : decode cX10_mix 10 = .ok (.ladd, 1) := by decide +kernel
theorem dX10_mix_11 : decode cX10_mix 11 = .ok (.putfield 197, 3) := by decide +kernel
theorem dX10_mix_14 : decode cX10_mix 14 = .ok (.return_, 1) := by decide +kernel
theorem dX10_mixAll_0 : decode cX10_mixAll 0 = .ok (.iconst 0, 1) := by decide +kernel
theorem dX10_mixAll_1 : decode cX10_mixAll 1 = .ok (.istore_n 1, 1) := by decide +kernel
theorem dX10_mixAll_2 : decode cX10_mixAll 2 = .ok (.iload_n 1, 1) := by decide +kernel
theorem dX10_mixAll_3 : decode cX10_mixAll 3 = .ok (.bipush 14, 2) := by decide +kernel
theorem dX10_mixAll_5 : decode cX10_mixAll 5 = .ok (.if_icmp .ge 19, 3) := by decide +kernel
theorem dX10_mixAll_8 : decode cX10_mixAll 8 = .ok (.aload_n 0, 1) := by decide +kernel
theorem dX10_mixAll_9 : decode cX10_mixAll 9 = .ok (.aload_n 0, 1) := by decide +kernel
theorem dX10_mixAll_10 : decode cX10_mixAll 10 = .ok (.iload_n 1, 1) := by decide +kernel
theorem dX10_mixAll_11 : decode cX10_mixAll 11 = .ok (.invokevirtual 173, 3) := by decide +kernel
theorem dX10_mixAll_14 : decode cX10_mixAll 14 = .ok (.i2l, 1) := by decide +kernel
theorem dX10_mixAll_15 : decode cX10_mixAll 15 = .ok (.invokevirtual 201, 3) := by decide +kernel
theorem dX10_mixAll_18 : decode cX10_mixAll 18 = .ok (.iinc 1 1, 3) := by decide +kernel
theorem dX10_mixAll_21 : decode cX10_mixAll 21 = .ok (.goto (-19), 3) := by decide +kernel
theorem dX10_mixAll_24 : decode cX10_mixAll 24 = .ok (.iconst 0, 1) := by decide +kernel
theorem dX10_mixAll_25 : decode cX10_mixAll 25 = .ok (.istore_n 1, 1) := by decide +kernel
theorem dX10_mixAll_26 : decode cX10_mixAll 26 = .ok (.iload_n 1, 1) := by decide +kernel
theorem dX10_mixAll_27 : decode cX10_mixAll 27 = .ok (.sipush 288, 3) := by decide +kernel
theorem dX10_mixAll_30 : decode cX10_mixAll 30 = .ok (.if_icmp .ge 24, 3) := by decide +kernel
theorem dX10_mixAll_33 : decode cX10_mixAll 33 = .ok (.aload_n 0, 1) := by decide +kernel
theorem dX10_mixAll_34 : decode cX10_mixAll 34 = .ok (.aload_n 0, 1) := by decide +kernel
theorem dX10_mixAll_35 : decode cX10_mixAll 35 = .ok (.iload_n 1, 1) := by decide +kernel
theorem dX10_mixAll_36 : decode cX10_mixAll 36 = .ok (.iconst 3, 1) := by decide +kernel
theorem dX10_mixAll_37 : decode cX10_mixAll 37 = .ok (.idiv, 1) := by decide +kernel
theorem dX10_mixAll_38 : decode cX10_mixAll 38 = .ok (.iload_n 1, 1) := by decide +kernel
theorem dX10_mixAll_39 : decode cX10_mixAll 39 = .ok (.iconst 3, 1) := by decide +kernel
theorem dX10_mixAll_40 : decode cX10_mixAll 40 = .ok (.irem, 1) := by decide +kernel
theorem dX10_mixAll_41 : decode cX10_mixAll 41 = .ok (.invokevirtual 152, 3) := by decide +kernel
theorem dX10_mixAll_44 : decode cX10_mixAll 44 = .ok (.i2l, 1) := by decide +kernel
theorem dX10_mixAll_45 : decode cX10_mixAll 45 = .ok (.invokevirtual 201, 3) := by decide +kernel
theorem dX10_mixAll_48 : decode cX10_mixAll 48 = .ok (.iinc 1 1, 3) := by decide +kernel
theorem dX10_mixAll_51 : decode cX10_mixAll 51 = .ok (.goto (-25), 3) := by decide +kernel
theorem dX10_mixAll_54 : decode cX10_mixAll 54 = .ok (.iconst 0, 1) := by decide +kernel
theorem dX10_mixAll_55 : decode cX10_mixAll 55 = .ok (.istore_n 1, 1) := by decide +kernel
theorem dX10_mixAll_56 : decode cX10_mixAll 56 = .ok (.iload_n 1, 1) := by decide +kernel
theorem dX10_mixAll_57 : decode cX10_mixAll 57 = .ok (.aload_n 0, 1) := by decide +kernel
theorem dX10_mixAll_58 : decode cX10_mixAll 58 = .ok (.getfield 7, 3) := by decide +kernel
theorem dX10_mixAll_61 : decode cX10_mixAll 61 = .ok (.bipush 98, 2) := by decide +kernel
theorem dX10_mixAll_63 : decode cX10_mixAll 63 = .ok (.iaload, 1) := by decide +kernel
theorem dX10_mixAll_64 : decode cX10_mixAll 64 = .ok (.if_icmp .ge 44, 3) := by decide +kernel
theorem dX10_mixAll_67 : decode cX10_mixAll 67 = .ok (.iconst 0, 1) := by decide +kernel
theorem dX10_mixAll_68 : decode cX10_mixAll 68 = .ok (.istore_n 2, 1) := by decide +kernel
theorem dX10_mixAll_69 : decode cX10_mixAll 69 = .ok (.iload_n 2, 1) := by decide +kernel
theorem dX10_mixAll_70 : decode cX10_mixAll 70 = .ok (.bipush 9, 2) := by decide +kernel
theorem dX10_mixAll_72 : decode cX10_mixAll 72 = .ok (.if_icmp .ge 20, 3) := by decide +kernel
theorem dX10_mixAll_75 : decode cX10_mixAll 75 = .ok (.aload_n 0, 1) := by decide +kernel
theorem dX10_mixAll_76 : decode cX10_mixAll 76 = .ok (.aload_n 0, 1) := by decide +kernel
theorem dX10_mixAll_77 : decode cX10_mixAll 77 = .ok (.iload_n 1, 1) := by decide +kernel
theorem dX10_mixAll_78 : decode cX10_mixAll 78 = .ok (.iload_n 2, 1) := by decide +kernel
theorem dX10_mixAll_79 : decode cX10_mixAll 79 = .ok (.invokevirtual 158, 3) := by decide +kernel
theorem dX10_mixAll_82 : decode cX10_mixAll 82 = .ok (.i2l, 1) := by decide +kernel
theorem dX10_mixAll_83 : decode cX10_mixAll 83 = .ok (.invokevirtual 201, 3) := by decide +kernel
theorem dX10_mixAll_86 : decode cX10_mixAll 86 = .ok (.iinc 2 1, 3) := by decide +kernel
theorem dX10_mixAll_89 : decode cX10_mixAll 89 = .ok (.goto (-20), 3) := by decide +kernel
theorem dX10_mixAll_92 : decode cX10_mixAll 92 = .ok (.aload_n 0, 1) := by decide +kernel
theorem dX10_mixAll_93 : decode cX10_mixAll 93 = .ok (.aload_n 0, 1) := by decide +kernel
theorem dX10_mixAll_94 : decode cX10_mixAll 94 = .ok (.iload_n 1, 1) := by decide +kernel
theorem dX10_mixAll_95 : decode cX10_mixAll 95 = .ok (.invokevirtual 93, 3) := by decide +kernel
theorem dX10_mixAll_98 : decode cX10_mixAll 98 = .ok (.i2l, 1) := by decide +kernel
theorem dX10_mixAll_99 : decode cX10_mixAll 99 = .ok (.invokevirtual 201, 3) := by decide +kernel
theorem dX10_mixAll_102 : decode cX10_mixAll 102 = .ok (.iinc 1 1, 3) := by decide +kernel
theorem dX10_mixAll_105 : decode cX10_mixAll 105 = .ok (.goto (-49), 3) := by decide +kernel
theorem dX10_mixAll_108 : decode cX10_mixAll 108 = .ok (.iconst 0, 1) := by decide +kernel
theorem dX10_mixAll_109 : decode cX10_mixAll 109 = .ok (.istore_n 1, 1) := by decide +kernel
theorem dX10_mixAll_110 : decode cX10_mixAll 110 = .ok (.iload_n 1, 1) := by decide +kernel
theorem dX10_mixAll_111 : decode cX10_mixAll 111 = .ok (.iconst 4, 1) := by decide +kernel
theorem dX10_mixAll_112 : decode cX10_mixAll 112 = .ok (.aload_n 0, 1) := by decide +kernel
theorem dX10_mixAll_113 : decode cX10_mixAll 113 = .ok (.getfield 7, 3) := by decide +kernel
theorem dX10_mixAll_116 : decode cX10_mixAll 116 = .ok (.sipush 195, 3) := by decide +kernel
theorem dX10_mixAll_119 : decode cX10_mixAll 119 = .ok (.iaload, 1) := by decide +kernel
theorem dX10_mixAll_120 : decode cX10_mixAll 120 = .ok (.imul, 1) := by decide +kernel
theorem dX10_mixAll_121 : decode cX10_mixAll 121 = .ok (.if_icmp .ge 24, 3) := by decide +kernel
theorem dX10_mixAll_124 : decode cX10_mixAll 124 = .ok (.aload_n 0, 1) := by decide +kernel
theorem dX10_mixAll_125 : decode cX10_mixAll 125 = .ok (.aload_n 0, 1) := by decide +kernel
theorem dX10_mixAll_126 : decode cX10_mixAll 126 = .ok (.iload_n 1, 1) := by decide +kernel
theorem dX10_mixAll_127 : decode cX10_mixAll 127 = .ok (.iconst 4, 1) := by decide +kernel
theorem dX10_mixAll_128 : decode cX10_mixAll 128 = .ok (.idiv, 1) := by decide +kernel
theorem dX10_mixAll_129 : decode cX10_mixAll 129 = .ok (.iload_n 1, 1) := by decide +kernel
theorem dX10_mixAll_130 : decode cX10_mixAll 130 = .ok (.iconst 4, 1) := by decide +kernel
theorem dX10_mixAll_131 : decode cX10_mixAll 131 = .ok (.irem, 1) := by decide +kernel
theorem dX10_mixAll_132 : decode cX10_mixAll 132 = .ok (.invokevirtual 164, 3) := by decide +kernel
theorem dX10_mixAll_135 : decode cX10_mixAll 135 = .ok (.i2l, 1) := by decide +kernel
theorem dX10_mixAll_136 : decode cX10_mixAll 136 = .ok (.invokevirtual 201, 3) := by decide +kernel
theorem dX10_mixAll_139 : decode cX10_mixAll 139 = .ok (.iinc 1 1, 3) := by decide +kernel
theorem dX10_mixAll_142 : decode cX10_mixAll 142 = .ok (.goto (-32), 3) := by decide +kernel
theorem dX10_mixAll_145 : decode cX10_mixAll 145 = .ok (.aload_n 0, 1) := by decide +kernel
theorem dX10_mixAll_146 : decode cX10_mixAll 146 = .ok (.aload_n 0, 1) := by decide +kernel
theorem dX10_mixAll_147 : decode cX10_mixAll 147 = .ok (.aload_n 0, 1) := by decide +kernel
theorem dX10_mixAll_148 : decode cX10_mixAll 148 = .ok (.getfield 7, 3) := by decide +kernel
theorem dX10_mixAll_151 : decode cX10_mixAll 151 = .ok (.bipush 96, 2) := by decide +kernel
theorem dX10_mixAll_153 : decode cX10_mixAll 153 = .ok (.iaload, 1) := by decide +kernel
theorem dX10_mixAll_154 : decode cX10_mixAll 154 = .ok (.invokevirtual 149, 3) := by decide +kernel
theorem dX10_mixAll_157 : decode cX10_mixAll 157 = .ok (.i2l, 1) := by decide +kernel
theorem dX10_mixAll_158 : decode cX10_mixAll 158 = .ok (.invokevirtual 201, 3) := by decide +kernel
theorem dX10_mixAll_161 : decode cX10_mixAll 161 = .ok (.aload_n 0, 1) := by decide +kernel
theorem dX10_mixAll_162 : decode cX10_mixAll 162 = .ok (.aload_n 0, 1) := by decide +kernel
theorem dX10_mixAll_163 : decode cX10_mixAll 163 = .ok (.aload_n 0, 1) := by decide +kernel
theorem dX10_mixAll_164 : decode cX10_mixAll 164 = .ok (.getfield 7, 3) := by decide +kernel
theorem dX10_mixAll_167 : decode cX10_mixAll 167 = .ok (.bipush 97, 2) := by decide +kernel
theorem dX10_mixAll_169 : decode cX10_mixAll 169 = .ok (.iaload, 1) := by decide +kernel
theorem dX10_mixAll_170 : decode cX10_mixAll 170 = .ok (.invokevirtual 149, 3) := by decide +kernel
theorem dX10_mixAll_173 : decode cX10_mixAll 173 = .ok (.i2l, 1) := by decide +kernel
theorem dX10_mixAll_174 : decode cX10_mixAll 174 = .ok (.invokevirtual 201, 3) := by decide +kernel
theorem dX10_mixAll_177 : decode cX10_mixAll 177 = .ok (.return_, 1) := by decide +kernel
theorem dJxe99ae_isNaN_b9ae7_0 : decode cJxe99ae_isNaN_b9ae7 0 = .ok (.dload_n 0, 1) := by decide +kernel
theorem dJxe99ae_isNaN_b9ae7_1 : decode cJxe99ae_isNaN_b9ae7 1 = .ok (.dload_n 0, 1) := by decide +kernel
theorem dJxe99ae_isNaN_b9ae7_2 : decode cJxe99ae_isNaN_b9ae7 2 = .ok (.dcmp .l, 1) := by decide +kernel
theorem dJxe99ae_isNaN_b9ae7_3 : decode cJxe99ae_isNaN_b9ae7 3 = .ok (.ifCond .eq 7, 3) := by decide +kernel
theorem dJxe99ae_isNaN_b9ae7_6 : decode cJxe99ae_isNaN_b9ae7 6 = .ok (.iconst 1, 1) := by decide +kernel
theorem dJxe99ae_isNaN_b9ae7_7 : decode cJxe99ae_isNaN_b9ae7 7 = .ok (.goto 4, 3) := by decide +kernel
theorem dJxe99ae_isNaN_b9ae7_10 : decode cJxe99ae_isNaN_b9ae7 10 = .ok (.iconst 0, 1) := by decide +kernel
theorem dJxe99ae_isNaN_b9ae7_11 : decode cJxe99ae_isNaN_b9ae7 11 = .ok (.ireturn, 1) := by decide +kernel
theorem dJxe99ae_doubleToLongBits_ccdee_0 : decode cJxe99ae_doubleToLongBits_ccdee 0 = .ok (.dload_n 0, 1) := by decide +kernel
theorem dJxe99ae_doubleToLongBits_ccdee_1 : decode cJxe99ae_doubleToLongBits_ccdee 1 = .ok (.invokestatic 122, 3) := by decide +kernel
theorem dJxe99ae_doubleToLongBits_ccdee_4 : decode cJxe99ae_doubleToLongBits_ccdee 4 = .ok (.ifCond .ne 8, 3) := by decide +kernel
theorem dJxe99ae_doubleToLongBits_ccdee_7 : decode cJxe99ae_doubleToLongBits_ccdee 7 = .ok (.dload_n 0, 1) := by decide +kernel
theorem dJxe99ae_doubleToLongBits_ccdee_8 : decode cJxe99ae_doubleToLongBits_ccdee 8 = .ok (.invokestatic 134, 3) := by decide +kernel
theorem dJxe99ae_doubleToLongBits_ccdee_11 : decode cJxe99ae_doubleToLongBits_ccdee 11 = .ok (.lreturn, 1) := by decide +kernel
theorem dJxe99ae_doubleToLongBits_ccdee_12 : decode cJxe99ae_doubleToLongBits_ccdee 12 = .ok (.ldc2_w 137, 3) := by decide +kernel
theorem dJxe99ae_doubleToLongBits_ccdee_15 : decode cJxe99ae_doubleToLongBits_ccdee 15 = .ok (.lreturn, 1) := by decide +kernel
theorem dX10_digest_0 : decode cX10_digest 0 = .ok (.aload_n 0, 1) := by decide +kernel
theorem dX10_digest_1 : decode cX10_digest 1 = .ok (.iconst 0, 1) := by decide +kernel
theorem dX10_digest_2 : decode cX10_digest 2 = .ok (.putfield 31, 3) := by decide +kernel
theorem dX10_digest_5 : decode cX10_digest 5 = .ok (.aload_n 0, 1) := by decide +kernel
theorem dX10_digest_6 : decode cX10_digest 6 = .ok (.ldc2_w 205, 3) := by decide +kernel
theorem dX10_digest_9 : decode cX10_digest 9 = .ok (.putfield 197, 3) := by decide +kernel
theorem dX10_digest_12 : decode cX10_digest 12 = .ok (.aload_n 0, 1) := by decide +kernel
theorem dX10_digest_13 : decode cX10_digest 13 = .ok (.invokevirtual 207, 3) := by decide +kernel
theorem dX10_digest_16 : decode cX10_digest 16 = .ok (.aload_n 0, 1) := by decide +kernel
theorem dX10_digest_17 : decode cX10_digest 17 = .ok (.aload_n 0, 1) := by decide +kernel
theorem dX10_digest_18 : decode cX10_digest 18 = .ok (.bipush 10, 2) := by decide +kernel
theorem dX10_digest_20 : decode cX10_digest 20 = .ok (.iconst 2, 1) := by decide +kernel
theorem dX10_digest_21 : decode cX10_digest 21 = .ok (.invokevirtual 185, 3) := by decide +kernel
theorem dX10_digest_24 : decode cX10_digest 24 = .ok (.i2l, 1) := by decide +kernel
theorem dX10_digest_25 : decode cX10_digest 25 = .ok (.invokevirtual 201, 3) := by decide +kernel
theorem dX10_digest_28 : decode cX10_digest 28 = .ok (.aload_n 0, 1) := by decide +kernel
theorem dX10_digest_29 : decode cX10_digest 29 = .ok (.aload_n 0, 1) := by decide +kernel
theorem dX10_digest_30 : decode cX10_digest 30 = .ok (.bipush 10, 2) := by decide +kernel
theorem dX10_digest_32 : decode cX10_digest 32 = .ok (.iconst 3, 1) := by decide +kernel
theorem dX10_digest_33 : decode cX10_digest 33 = .ok (.invokevirtual 185, 3) := by decide +kernel
theorem dX10_digest_36 : decode cX10_digest 36 = .ok (.i2l, 1) := by decide +kernel
theorem dX10_digest_37 : decode cX10_digest 37 = .ok (.invokevirtual 201, 3) := by decide +kernel
theorem dX10_digest_40 : decode cX10_digest 40 = .ok (.bipush 6, 2) := by decide +kernel
theorem dX10_digest_42 : decode cX10_digest 42 = .ok (.istore_n 1, 1) := by decide +kernel
theorem dX10_digest_43 : decode cX10_digest 43 = .ok (.iload_n 1, 1) := by decide +kernel
theorem dX10_digest_44 : decode cX10_digest 44 = .ok (.bipush 11, 2) := by decide +kernel
theorem dX10_digest_46 : decode cX10_digest 46 = .ok (.if_icmp .ge 21, 3) := by decide +kernel
theorem dX10_digest_49 : decode cX10_digest 49 = .ok (.aload_n 0, 1) := by decide +kernel
theorem dX10_digest_50 : decode cX10_digest 50 = .ok (.aload_n 0, 1) := by decide +kernel
theorem dX10_digest_51 : decode cX10_digest 51 = .ok (.bipush 10, 2) := by decide +kernel
theorem dX10_digest_53 : decode cX10_digest 53 = .ok (.iload_n 1, 1) := by decide +kernel
theorem dX10_digest_54 : decode cX10_digest 54 = .ok (.invokevirtual 185, 3) := by decide +kernel
theorem dX10_digest_57 : decode cX10_digest 57 = .ok (.i2l, 1) := by decide +kernel
theorem dX10_digest_58 : decode cX10_digest 58 = .ok (.invokevirtual 201, 3) := by decide +kernel
theorem dX10_digest_61 : decode cX10_digest 61 = .ok (.iinc 1 1, 3) := by decide +kernel
theorem dX10_digest_64 : decode cX10_digest 64 = .ok (.goto (-21), 3) := by decide +kernel
theorem dX10_digest_67 : decode cX10_digest 67 = .ok (.aload_n 0, 1) := by decide +kernel
theorem dX10_digest_68 : decode cX10_digest 68 = .ok (.aload_n 0, 1) := by decide +kernel
theorem dX10_digest_69 : decode cX10_digest 69 = .ok (.invokevirtual 191, 3) := by decide +kernel

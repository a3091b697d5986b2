theorem dX9_pass_47 : decode cX9_pass 47 = .ok (.istore_n 2, 1) := by decide +kernel
theorem dX9_pass_48 : decode cX9_pass 48 = .ok (.aload_n 0, 1) := by decide +kernel
theorem dX9_pass_49 : decode cX9_pass 49 = .ok (.getfield 43, 3) := by decide +kernel
theorem dX9_pass_52 : decode cX9_pass 52 = .ok (.aload_n 0, 1) := by decide +kernel
theorem dX9_pass_53 : decode cX9_pass 53 = .ok (.getfield 12, 3) := by decide +kernel
theorem dX9_pass_56 : decode cX9_pass 56 = .ok (.iload_n 1, 1) := by decide +kernel
theorem dX9_pass_57 : decode cX9_pass 57 = .ok (.invokevirtual 124, 3) := by decide +kernel
theorem dX9_pass_60 : decode cX9_pass 60 = .ok (.aload_n 0, 1) := by decide +kernel
theorem dX9_pass_61 : decode cX9_pass 61 = .ok (.getfield 12, 3) := by decide +kernel
theorem dX9_pass_64 : decode cX9_pass 64 = .ok (.invokevirtual 120, 3) := by decide +kernel
theorem dX9_pass_67 : decode cX9_pass 67 = .ok (.iload_n 2, 1) := by decide +kernel
theorem dX9_pass_68 : decode cX9_pass 68 = .ok (.isub, 1) := by decide +kernel
theorem dX9_pass_69 : decode cX9_pass 69 = .ok (.ireturn, 1) := by decide +kernel
theorem dX9_append_0 : decode cX9_append 0 = .ok (.iload_n 1, 1) := by decide +kernel
theorem dX9_append_1 : decode cX9_append 1 = .ok (.bipush 33, 2) := by decide +kernel
theorem dX9_append_3 : decode cX9_append 3 = .ok (.if_icmp .lt 9, 3) := by decide +kernel
theorem dX9_append_6 : decode cX9_append 6 = .ok (.iload_n 1, 1) := by decide +kernel
theorem dX9_append_7 : decode cX9_append 7 = .ok (.bipush 126, 2) := by decide +kernel
theorem dX9_append_9 : decode cX9_append 9 = .ok (.if_icmp .le 13, 3) := by decide +kernel
theorem dX9_append_12 : decode cX9_append 12 = .ok (.new 51, 3) := by decide +kernel
theorem dX9_append_15 : decode cX9_append 15 = .ok (.dup, 1) := by decide +kernel
theorem dX9_append_16 : decode cX9_append 16 = .ok (.ldc 128, 2) := by decide +kernel
theorem dX9_append_18 : decode cX9_append 18 = .ok (.invokespecial 55, 3) := by decide +kernel
theorem dX9_append_21 : decode cX9_append 21 = .ok (.athrow, 1) := by decide +kernel
theorem dX9_append_22 : decode cX9_append 22 = .ok (.aload_n 0, 1) := by decide +kernel
theorem dX9_append_23 : decode cX9_append 23 = .ok (.getfield 29, 3) := by decide +kernel
theorem dX9_append_26 : decode cX9_append 26 = .ok (.getfield 130, 3) := by decide +kernel
theorem dX9_append_29 : decode cX9_append 29 = .ok (.bipush 60, 2) := by decide +kernel
theorem dX9_append_31 : decode cX9_append 31 = .ok (.if_icmp .lt 13, 3) := by decide +kernel
theorem dX9_append_34 : decode cX9_append 34 = .ok (.new 91, 3) := by decide +kernel
theorem dX9_append_37 : decode cX9_append 37 = .ok (.dup, 1) := by decide +kernel
theorem dX9_append_38 : decode cX9_append 38 = .ok (.ldc 133, 2) := by decide +kernel
theorem dX9_append_40 : decode cX9_append 40 = .ok (.invokespecial 95, 3) := by decide +kernel
theorem dX9_append_43 : decode cX9_append 43 = .ok (.athrow, 1) := by decide +kernel
theorem dX9_append_44 : decode cX9_append 44 = .ok (.aload_n 0, 1) := by decide +kernel
theorem dX9_append_45 : decode cX9_append 45 = .ok (.getfield 29, 3) := by decide +kernel
theorem dX9_append_48 : decode cX9_append 48 = .ok (.iload_n 1, 1) := by decide +kernel
theorem dX9_append_49 : decode cX9_append 49 = .ok (.invokevirtual 135, 3) := by decide +kernel
theorem dX9_append_52 : decode cX9_append 52 = .ok (.ireturn, 1) := by decide +kernel
theorem dX9_clearBuffer_0 : decode cX9_clearBuffer 0 = .ok (.aload_n 0, 1) := by decide +kernel
theorem dX9_clearBuffer_1 : decode cX9_clearBuffer 1 = .ok (.getfield 29, 3) := by decide +kernel
theorem dX9_clearBuffer_4 : decode cX9_clearBuffer 4 = .ok (.getfield 130, 3) := by decide +kernel
theorem dX9_clearBuffer_7 : decode cX9_clearBuffer 7 = .ok (.istore_n 1, 1) := by decide +kernel
theorem dX9_clearBuffer_8 : decode cX9_clearBuffer 8 = .ok (.aload_n 0, 1) := by decide +kernel
theorem dX9_clearBuffer_9 : decode cX9_clearBuffer 9 = .ok (.getfield 29, 3) := by decide +kernel
theorem dX9_clearBuffer_12 : decode cX9_clearBuffer 12 = .ok (.iconst 0, 1) := by decide +kernel
theorem dX9_clearBuffer_13 : decode cX9_clearBuffer 13 = .ok (.putfield 130, 3) := by decide +kernel
theorem dX9_clearBuffer_16 : decode cX9_clearBuffer 16 = .ok (.iload_n 1, 1) := by decide +kernel
theorem dX9_clearBuffer_17 : decode cX9_clearBuffer 17 = .ok (.ireturn, 1) := by decide +kernel
theorem dX9_firstError_0 : decode cX9_firstError 0 = .ok (.aload_n 0, 1) := by decide +kernel
theorem dX9_firstError_1 : decode cX9_firstError 1 = .ok (.getfield 29, 3) := by decide +kernel
theorem dX9_firstError_4 : decode cX9_firstError 4 = .ok (.invokevirtual 138, 3) := by decide +kernel
theorem dX9_firstError_7 : decode cX9_firstError 7 = .ok (.ireturn, 1) := by decide +kernel
theorem dX9_canSend_0 : decode cX9_canSend 0 = .ok (.iload_n 1, 1) := by decide +kernel
theorem dX9_canSend_1 : decode cX9_canSend 1 = .ok (.aload_n 0, 1) := by decide +kernel
theorem dX9_canSend_2 : decode cX9_canSend 2 = .ok (.getfield 12, 3) := by decide +kernel
theorem dX9_canSend_5 : decode cX9_canSend 5 = .ok (.getfield 83, 3) := by decide +kernel
theorem dX9_canSend_8 : decode cX9_canSend 8 = .ok (.if_icmp .ge 22, 3) := by decide +kernel
theorem dX9_canSend_11 : decode cX9_canSend 11 = .ok (.aload_n 0, 1) := by decide +kernel
theorem dX9_canSend_12 : decode cX9_canSend 12 = .ok (.getfield 36, 3) := by decide +kernel
theorem dX9_canSend_15 : decode cX9_canSend 15 = .ok (.aload_n 0, 1) := by decide +kernel
theorem dX9_canSend_16 : decode cX9_canSend 16 = .ok (.getfield 12, 3) := by decide +kernel
theorem dX9_canSend_19 : decode cX9_canSend 19 = .ok (.iload_n 1, 1) := by decide +kernel
theorem dX9_canSend_20 : decode cX9_canSend 20 = .ok (.invokevirtual 102, 3) := by decide +kernel
theorem dX9_canSend_23 : decode cX9_canSend 23 = .ok (.ifCond .ne 7, 3) := by decide +kernel
theorem dX9_canSend_26 : decode cX9_canSend 26 = .ok (.iconst 1, 1) := by decide +kernel
theorem dX9_canSend_27 : decode cX9_canSend 27 = .ok (.goto 4, 3) := by decide +kernel
theorem dX9_canSend_30 : decode cX9_canSend 30 = .ok (.iconst 0, 1) := by decide +kernel
theorem dX9_canSend_31 : decode cX9_canSend 31 = .ok (.ireturn, 1) := by decide +kernel
theorem dX9_load_0 : decode cX9_load 0 = .ok (.aload_n 0, 1) := by decide +kernel
theorem dX9_load_1 : decode cX9_load 1 = .ok (.getfield 29, 3) := by decide +kernel
theorem dX9_load_4 : decode cX9_load 4 = .ok (.invokevirtual 141, 3) := by decide +kernel
theorem dX9_load_7 : decode cX9_load 7 = .ok (.ifCond .ne 13, 3) := by decide +kernel
theorem dX9_load_10 : decode cX9_load 10 = .ok (.new 51, 3) := by decide +kernel
theorem dX9_load_13 : decode cX9_load 13 = .ok (.dup, 1) := by decide +kernel
theorem dX9_load_14 : decode cX9_load 14 = .ok (.ldc 145, 2) := by decide +kernel
theorem dX9_load_16 : decode cX9_load 16 = .ok (.invokespecial 55, 3) := by decide +kernel
theorem dX9_load_19 : decode cX9_load 19 = .ok (.athrow, 1) := by decide +kernel
theorem dX9_load_20 : decode cX9_load 20 = .ok (.aload_n 0, 1) := by decide +kernel
theorem dX9_load_21 : decode cX9_load 21 = .ok (.getfield 22, 3) := by decide +kernel
theorem dX9_load_24 : decode cX9_load 24 = .ok (.aload_n 0, 1) := by decide +kernel
theorem dX9_load_25 : decode cX9_load 25 = .ok (.getfield 12, 3) := by decide +kernel
theorem dX9_load_28 : decode cX9_load 28 = .ok (.invokevirtual 60, 3) := by decide +kernel
theorem dX9_load_31 : decode cX9_load 31 = .ok (.aload_n 0, 1) := by decide +kernel
theorem dX9_load_32 : decode cX9_load 32 = .ok (.getfield 29, 3) := by decide +kernel
theorem dX9_load_35 : decode cX9_load 35 = .ok (.invokevirtual 147, 3) := by decide +kernel
theorem dX9_load_38 : decode cX9_load 38 = .ok (.istore_n 1, 1) := by decide +kernel
theorem dX9_load_39 : decode cX9_load 39 = .ok (.iconst 0, 1) := by decide +kernel
theorem dX9_load_40 : decode cX9_load 40 = .ok (.istore_n 2, 1) := by decide +kernel
theorem dX9_load_41 : decode cX9_load 41 = .ok (.iload_n 2, 1) := by decide +kernel
theorem dX9_load_42 : decode cX9_load 42 = .ok (.iload_n 1, 1) := by decide +kernel
theorem dX9_load_43 : decode cX9_load 43 = .ok (.if_icmp .ge 48, 3) := by decide +kernel
theorem dX9_load_46 : decode cX9_load 46 = .ok (.aload_n 0, 1) := by decide +kernel
theorem dX9_load_47 : decode cX9_load 47 = .ok (.aload_n 0, 1) := by decide +kernel
theorem dX9_load_48 : decode cX9_load 48 = .ok (.getfield 29, 3) := by decide +kernel
theorem dX9_load_51 : decode cX9_load 51 = .ok (.getfield 150, 3) := by decide +kernel
theorem dX9_load_54 : decode cX9_load 54 = .ok (.iload_n 2, 1) := by decide +kernel
theorem dX9_load_55 : decode cX9_load 55 = .ok (.iaload, 1) := by decide +kernel
theorem dX9_load_56 : decode cX9_load 56 = .ok (.invokevirtual 153, 3) := by decide +kernel
theorem dX9_load_59 : decode cX9_load 59 = .ok (.ifCond .eq 32, 3) := by decide +kernel
theorem dX9_load_62 : decode cX9_load 62 = .ok (.aload_n 0, 1) := by decide +kernel
theorem dX9_load_63 : decode cX9_load 63 = .ok (.aload_n 0, 1) := by decide +kernel
theorem dX9_load_64 : decode cX9_load 64 = .ok (.getfield 29, 3) := by decide +kernel
theorem dX9_load_67 : decode cX9_load 67 = .ok (.getfield 150, 3) := by decide +kernel
theorem dX9_load_70 : decode cX9_load 70 = .ok (.iload_n 2, 1) := by decide +kernel
theorem dX9_load_71 : decode cX9_load 71 = .ok (.iaload, 1) := by decide +kernel
theorem dX9_load_72 : decode cX9_load 72 = .ok (.aload_n 0, 1) := by decide +kernel
theorem dX9_load_73 : decode cX9_load 73 = .ok (.getfield 29, 3) := by decide +kernel
theorem dX9_load_76 : decode cX9_load 76 = .ok (.getfield 157, 3) := by decide +kernel
theorem dX9_load_79 : decode cX9_load 79 = .ok (.iload_n 2, 1) := by decide +kernel
theorem dX9_load_80 : decode cX9_load 80 = .ok (.iaload, 1) := by decide +kernel
theorem dX9_load_81 : decode cX9_load 81 = .ok (.invokevirtual 108, 3) := by decide +kernel
theorem dX9_load_84 : decode cX9_load 84 = .ok (.pop, 1) := by decide +kernel
theorem dX9_load_85 : decode cX9_load 85 = .ok (.iinc 2 1, 3) := by decide +kernel
theorem dX9_load_88 : decode cX9_load 88 = .ok (.goto (-47), 3) := by decide +kernel
theorem dX9_load_91 : decode cX9_load 91 = .ok (.aload_n 0, 1) := by decide +kernel
theorem dX9_load_92 : decode cX9_load 92 = .ok (.getfield 29, 3) := by decide +kernel
theorem dX9_load_95 : decode cX9_load 95 = .ok (.iconst 0, 1) := by decide +kernel
theorem dX9_load_96 : decode cX9_load 96 = .ok (.putfield 130, 3) := by decide +kernel
theorem dX9_load_99 : decode cX9_load 99 = .ok (.iload_n 2, 1) := by decide +kernel
theorem dX9_load_100 : decode cX9_load 100 = .ok (.ireturn, 1) := by decide +kernel
theorem dX9_undo_0 : decode cX9_undo 0 = .ok (.aload_n 0, 1) := by decide +kernel
theorem dX9_undo_1 : decode cX9_undo 1 = .ok (.getfield 22, 3) := by decide +kernel
theorem dX9_undo_4 : decode cX9_undo 4 = .ok (.getfield 160, 3) := by decide +kernel
theorem dX9_undo_7 : decode cX9_undo 7 = .ok (.ifCond .ne 13, 3) := by decide +kernel
theorem dX9_undo_10 : decode cX9_undo 10 = .ok (.new 91, 3) := by decide +kernel
theorem dX9_undo_13 : decode cX9_undo 13 = .ok (.dup, 1) := by decide +kernel
theorem dX9_undo_14 : decode cX9_undo 14 = .ok (.ldc 163, 2) := by decide +kernel
theorem dX9_undo_16 : decode cX9_undo 16 = .ok (.invokespecial 95, 3) := by decide +kernel
theorem dX9_undo_19 : decode cX9_undo 19 = .ok (.athrow, 1) := by decide +kernel
theorem dX9_undo_20 : decode cX9_undo 20 = .ok (.aload_n 0, 1) := by decide +kernel
theorem dX9_undo_21 : decode cX9_undo 21 = .ok (.getfield 22, 3) := by decide +kernel
theorem dX9_undo_24 : decode cX9_undo 24 = .ok (.aload_n 0, 1) := by decide +kernel
theorem dX9_undo_25 : decode cX9_undo 25 = .ok (.getfield 12, 3) := by decide +kernel
theorem dX9_undo_28 : decode cX9_undo 28 = .ok (.invokevirtual 165, 3) := by decide +kernel
theorem dX9_undo_31 : decode cX9_undo 31 = .ok (.aload_n 0, 1) := by decide +kernel
theorem dX9_undo_32 : decode cX9_undo 32 = .ok (.getfield 22, 3) := by decide +kernel
theorem dX9_undo_35 : decode cX9_undo 35 = .ok (.getfield 160, 3) := by decide +kernel
theorem dX9_undo_38 : decode cX9_undo 38 = .ok (.ireturn, 1) := by decide +kernel
theorem dX9_needFigure_0 : decode cX9_needFigure 0 = .ok (.iload_n 0, 1) := by decide +kernel
theorem dX9_needFigure_1 : decode cX9_needFigure 1 = .ok (.ifCond .lt 8, 3) := by decide +kernel
theorem dX9_needFigure_4 : decode cX9_needFigure 4 = .ok (.iload_n 0, 1) := by decide +kernel
theorem dX9_needFigure_5 : decode cX9_needFigure 5 = .ok (.iload_n 1, 1) := by decide +kernel
theorem dX9_needFigure_6 : decode cX9_needFigure 6 = .ok (.if_icmp .lt 14, 3) := by decide +kernel
theorem dX9_needFigure_9 : decode cX9_needFigure 9 = .ok (.new 51, 3) := by decide +kernel
theorem dX9_needFigure_12 : decode cX9_needFigure 12 = .ok (.dup, 1) := by decide +kernel
theorem dX9_needFigure_13 : decode cX9_needFigure 13 = .ok (.ldc_w 271, 3) := by decide +kernel
theorem dX9_needFigure_16 : decode cX9_needFigure 16 = .ok (.invokespecial 55, 3) := by decide +kernel
theorem dX9_needFigure_19 : decode cX9_needFigure 19 = .ok (.athrow, 1) := by decide +kernel
theorem dX9_needFigure_20 : decode cX9_needFigure 20 = .ok (.return_, 1) := by decide +kernel
theorem dX9_cell_0 : decode cX9_cell 0 = .ok (.iload_n 1, 1) := by decide +kernel
theorem dX9_cell_1 : decode cX9_cell 1 = .ok (.invokestatic 47, 3) := by decide +kernel
theorem dX9_cell_4 : decode cX9_cell 4 = .ok (.iload_n 2, 1) := by decide +kernel
theorem dX9_cell_5 : decode cX9_cell 5 = .ok (.iconst 4, 1) := by decide +kernel
theorem dX9_cell_6 : decode cX9_cell 6 = .ok (.invokestatic 168, 3) := by decide +kernel
theorem dX9_cell_9 : decode cX9_cell 9 = .ok (.aload_n 0, 1) := by decide +kernel
theorem dX9_cell_10 : decode cX9_cell 10 = .ok (.getfield 12, 3) := by decide +kernel
theorem dX9_cell_13 : decode cX9_cell 13 = .ok (.iload_n 1, 1) := by decide +kernel
theorem dX9_cell_14 : decode cX9_cell 14 = .ok (.iload_n 2, 1) := by decide +kernel
theorem dX9_cell_15 : decode cX9_cell 15 = .ok (.invokevirtual 172, 3) := by decide +kernel
theorem dX9_cell_18 : decode cX9_cell 18 = .ok (.ireturn, 1) := by decide +kernel
theorem dX9_troop_0 : decode cX9_troop 0 = .ok (.aload_n 0, 1) := by decide +kernel
theorem dX9_troop_1 : decode cX9_troop 1 = .ok (.iload_n 1, 1) := by decide +kernel
theorem dX9_troop_2 : decode cX9_troop 2 = .ok (.invokevirtual 99, 3) := by decide +kernel
theorem dX9_troop_5 : decode cX9_troop 5 = .ok (.iload_n 2, 1) := by decide +kernel
theorem dX9_troop_6 : decode cX9_troop 6 = .ok (.bipush 9, 2) := by decide +kernel
theorem dX9_troop_8 : decode cX9_troop 8 = .ok (.invokestatic 168, 3) := by decide +kernel
theorem dX9_troop_11 : decode cX9_troop 11 = .ok (.aload_n 0, 1) := by decide +kernel
theorem dX9_troop_12 : decode cX9_troop 12 = .ok (.getfield 12, 3) := by decide +kernel
theorem dX9_troop_15 : decode cX9_troop 15 = .ok (.iload_n 1, 1) := by decide +kernel
theorem dX9_troop_16 : decode cX9_troop 16 = .ok (.iload_n 2, 1) := by decide +kernel
theorem dX9_troop_17 : decode cX9_troop 17 = .ok (.invokevirtual 175, 3) := by decide +kernel
theorem dX9_troop_20 : decode cX9_troop 20 = .ok (.ireturn, 1) := by decide +kernel
theorem dX9_underWay_0 : decode cX9_underWay 0 = .ok (.iload_n 1, 1) := by decide +kernel
theorem dX9_underWay_1 : decode cX9_underWay 1 = .ok (.ifCond .lt 14, 3) := by decide +kernel
theorem dX9_underWay_4 : decode cX9_underWay 4 = .ok (.iload_n 1, 1) := by decide +kernel
theorem dX9_underWay_5 : decode cX9_underWay 5 = .ok (.aload_n 0, 1) := by decide +kernel
theorem dX9_underWay_6 : decode cX9_underWay 6 = .ok (.getfield 12, 3) := by decide +kernel
theorem dX9_underWay_9 : decode cX9_underWay 9 = .ok (.getfield 178, 3) := by decide +kernel
theorem dX9_underWay_12 : decode cX9_underWay 12 = .ok (.if_icmp .lt 13, 3) := by decide +kernel
theorem dX9_underWay_15 : decode cX9_underWay 15 = .ok (.new 181, 3) := by decide +kernel
theorem dX9_underWay_18 : decode cX9_underWay 18 = .ok (.dup, 1) := by decide +kernel
theorem dX9_underWay_19 : decode cX9_underWay 19 = .ok (.ldc 183, 2) := by decide +kernel
theorem dX9_underWay_21 : decode cX9_underWay 21 = .ok (.invokespecial 185, 3) := by decide +kernel
theorem dX9_underWay_24 : decode cX9_underWay 24 = .ok (.athrow, 1) := by decide +kernel
theorem dX9_underWay_25 : decode cX9_underWay 25 = .ok (.iload_n 2, 1) := by decide +kernel
theorem dX9_underWay_26 : decode cX9_underWay 26 = .ok (.iconst 4, 1) := by decide +kernel
theorem dX9_underWay_27 : decode cX9_underWay 27 = .ok (.invokestatic 168, 3) := by decide +kernel
theorem dX9_underWay_30 : decode cX9_underWay 30 = .ok (.aload_n 0, 1) := by decide +kernel
theorem dX9_underWay_31 : decode cX9_underWay 31 = .ok (.getfield 12, 3) := by decide +kernel
theorem dX9_underWay_34 : decode cX9_underWay 34 = .ok (.getfield 186, 3) := by decide +kernel
theorem dX9_underWay_37 : decode cX9_underWay 37 = .ok (.iload_n 1, 1) := by decide +kernel
theorem dX9_underWay_38 : decode cX9_underWay 38 = .ok (.aaload, 1) := by decide +kernel
theorem dX9_underWay_39 : decode cX9_underWay 39 = .ok (.iload_n 2, 1) := by decide +kernel
theorem dX9_underWay_40 : decode cX9_underWay 40 = .ok (.invokevirtual 190, 3) := by decide +kernel
theorem dX9_underWay_43 : decode cX9_underWay 43 = .ok (.ireturn, 1) := by decide +kernel
theorem dX9_countNow_0 : decode cX9_countNow 0 = .ok (.iload_n 1, 1) := by decide +kernel
theorem dX9_countNow_1 : decode cX9_countNow 1 = .ok (.bipush 13, 2) := by decide +kernel
theorem dX9_countNow_3 : decode cX9_countNow 3 = .ok (.if_icmp .ne 13, 3) := by decide +kernel
theorem dX9_countNow_6 : decode cX9_countNow 6 = .ok (.aload_n 0, 1) := by decide +kernel
theorem dX9_countNow_7 : decode cX9_countNow 7 = .ok (.getfield 22, 3) := by decide +kernel
theorem dX9_countNow_10 : decode cX9_countNow 10 = .ok (.getfield 160, 3) := by decide +kernel
theorem dX9_countNow_13 : decode cX9_countNow 13 = .ok (.goto 11, 3) := by decide +kernel
theorem dX9_countNow_16 : decode cX9_countNow 16 = .ok (.aload_n 0, 1) := by decide +kernel
theorem dX9_countNow_17 : decode cX9_countNow 17 = .ok (.getfield 12, 3) := by decide +kernel
theorem dX9_countNow_20 : decode cX9_countNow 20 = .ok (.iload_n 1, 1) := by decide +kernel
theorem dX9_countNow_21 : decode cX9_countNow 21 = .ok (.invokevirtual 214, 3) := by decide +kernel
theorem dX9_countNow_24 : decode cX9_countNow 24 = .ok (.ireturn, 1) := by decide +kernel
theorem dX9_count_0 : decode cX9_count 0 = .ok (.iload_n 1, 1) := by decide +kernel
theorem dX9_count_1 : decode cX9_count 1 = .ok (.bipush 14, 2) := by decide +kernel
theorem dX9_count_3 : decode cX9_count 3 = .ok (.invokestatic 168, 3) := by decide +kernel
theorem dX9_count_6 : decode cX9_count 6 = .ok (.aload_n 0, 1) := by decide +kernel
theorem dX9_count_7 : decode cX9_count 7 = .ok (.iload_n 1, 1) := by decide +kernel
theorem dX9_count_8 : decode cX9_count 8 = .ok (.invokevirtual 195, 3) := by decide +kernel
theorem dX9_count_11 : decode cX9_count 11 = .ok (.ireturn, 1) := by decide +kernel
theorem dX9_sees_0 : decode cX9_sees 0 = .ok (.iload_n 1, 1) := by decide +kernel
theorem dX9_sees_1 : decode cX9_sees 1 = .ok (.invokestatic 47, 3) := by decide +kernel
theorem dX9_sees_4 : decode cX9_sees 4 = .ok (.iload_n 2, 1) := by decide +kernel
theorem dX9_sees_5 : decode cX9_sees 5 = .ok (.invokestatic 47, 3) := by decide +kernel
theorem dX9_sees_8 : decode cX9_sees 8 = .ok (.aload_n 0, 1) := by decide +kernel
theorem dX9_sees_9 : decode cX9_sees 9 = .ok (.getfield 12, 3) := by decide +kernel
theorem dX9_sees_12 : decode cX9_sees 12 = .ok (.getfield 64, 3) := by decide +kernel
theorem dX9_sees_15 : decode cX9_sees 15 = .ok (.iload_n 1, 1) := by decide +kernel
theorem dX9_sees_16 : decode cX9_sees 16 = .ok (.iload_n 2, 1) := by decide +kernel
theorem dX9_sees_17 : decode cX9_sees 17 = .ok (.invokevirtual 198, 3) := by decide +kernel
theorem dX9_sees_20 : decode cX9_sees 20 = .ok (.ireturn, 1) := by decide +kernel
theorem dX9_distance_0 : decode cX9_distance 0 = .ok (.iload_n 1, 1) := by decide +kernel
theorem dX9_distance_1 : decode cX9_distance 1 = .ok (.invokestatic 47, 3) := by decide +kernel
theorem dX9_distance_4 : decode cX9_distance 4 = .ok (.iload_n 2, 1) := by decide +kernel
theorem dX9_distance_5 : decode cX9_distance 5 = .ok (.invokestatic 47, 3) := by decide +kernel
theorem dX9_distance_8 : decode cX9_distance 8 = .ok (.aload_n 0, 1) := by decide +kernel
theorem dX9_distance_9 : decode cX9_distance 9 = .ok (.getfield 36, 3) := by decide +kernel
theorem dX9_distance_12 : decode cX9_distance 12 = .ok (.aload_n 0, 1) := by decide +kernel
theorem dX9_distance_13 : decode cX9_distance 13 = .ok (.getfield 12, 3) := by decide +kernel
theorem dX9_distance_16 : decode cX9_distance 16 = .ok (.getfield 64, 3) := by decide +kernel
theorem dX9_distance_19 : decode cX9_distance 19 = .ok (.iload_n 1, 1) := by decide +kernel
theorem dX9_distance_20 : decode cX9_distance 20 = .ok (.iload_n 2, 1) := by decide +kernel
theorem dX9_distance_21 : decode cX9_distance 21 = .ok (.invokevirtual 202, 3) := by decide +kernel
theorem dX9_distance_24 : decode cX9_distance 24 = .ok (.ireturn, 1) := by decide +kernel
theorem dX9_why_0 : decode cX9_why 0 = .ok (.aload_n 0, 1) := by decide +kernel
theorem dX9_why_1 : decode cX9_why 1 = .ok (.iload_n 1, 1) := by decide +kernel
theorem dX9_why_2 : decode cX9_why 2 = .ok (.invokevirtual 99, 3) := by decide +kernel
theorem dX9_why_5 : decode cX9_why 5 = .ok (.aload_n 0, 1) := by decide +kernel
theorem dX9_why_6 : decode cX9_why 6 = .ok (.getfield 36, 3) := by decide +kernel
theorem dX9_why_9 : decode cX9_why 9 = .ok (.aload_n 0, 1) := by decide +kernel
theorem dX9_why_10 : decode cX9_why 10 = .ok (.getfield 12, 3) := by decide +kernel
theorem dX9_why_13 : decode cX9_why 13 = .ok (.iload_n 1, 1) := by decide +kernel
theorem dX9_why_14 : decode cX9_why 14 = .ok (.invokevirtual 102, 3) := by decide +kernel
theorem dX9_why_17 : decode cX9_why 17 = .ok (.ireturn, 1) := by decide +kernel
theorem dX9_bestPost_0 : decode cX9_bestPost 0 = .ok (.iload_n 1, 1) := by decide +kernel
theorem dX9_bestPost_1 : decode cX9_bestPost 1 = .ok (.invokestatic 74, 3) := by decide +kernel
theorem dX9_bestPost_4 : decode cX9_bestPost 4 = .ok (.aload_n 0, 1) := by decide +kernel
theorem dX9_bestPost_5 : decode cX9_bestPost 5 = .ok (.getfield 36, 3) := by decide +kernel
theorem dX9_bestPost_8 : decode cX9_bestPost 8 = .ok (.aload_n 0, 1) := by decide +kernel
theorem dX9_bestPost_9 : decode cX9_bestPost 9 = .ok (.getfield 12, 3) := by decide +kernel
theorem dX9_bestPost_12 : decode cX9_bestPost 12 = .ok (.iload_n 1, 1) := by decide +kernel
theorem dX9_bestPost_13 : decode cX9_bestPost 13 = .ok (.invokevirtual 206, 3) := by decide +kernel
theorem dX9_bestPost_16 : decode cX9_bestPost 16 = .ok (.ireturn, 1) := by decide +kernel
theorem dX9_ifPassed_0 : decode cX9_ifPassed 0 = .ok (.iload_n 1, 1) := by decide +kernel
theorem dX9_ifPassed_1 : decode cX9_ifPassed 1 = .ok (.invokestatic 112, 3) := by decide +kernel
theorem dX9_ifPassed_4 : decode cX9_ifPassed 4 = .ok (.iload_n 2, 1) := by decide +kernel
theorem dX9_ifPassed_5 : decode cX9_ifPassed 5 = .ok (.iconst 2, 1) := by decide +kernel
theorem dX9_ifPassed_6 : decode cX9_ifPassed 6 = .ok (.if_icmp .eq 30, 3) := by decide +kernel
theorem dX9_ifPassed_9 : decode cX9_ifPassed 9 = .ok (.iload_n 2, 1) := by decide +kernel
theorem dX9_ifPassed_10 : decode cX9_ifPassed 10 = .ok (.iconst 3, 1) := by decide +kernel
theorem dX9_ifPassed_11 : decode cX9_ifPassed 11 = .ok (.if_icmp .eq 25, 3) := by decide +kernel
theorem dX9_ifPassed_14 : decode cX9_ifPassed 14 = .ok (.iload_n 2, 1) := by decide +kernel
theorem dX9_ifPassed_15 : decode cX9_ifPassed 15 = .ok (.bipush 6, 2) := by decide +kernel
theorem dX9_ifPassed_17 : decode cX9_ifPassed 17 = .ok (.if_icmp .lt 9, 3) := by decide +kernel
theorem dX9_ifPassed_20 : decode cX9_ifPassed 20 = .ok (.iload_n 2, 1) := by decide +kernel
theorem dX9_ifPassed_21 : decode cX9_ifPassed 21 = .ok (.bipush 10, 2) := by decide +kernel
theorem dX9_ifPassed_23 : decode cX9_ifPassed 23 = .ok (.if_icmp .le 13, 3) := by decide +kernel
theorem dX9_ifPassed_26 : decode cX9_ifPassed 26 = .ok (.new 51, 3) := by decide +kernel
theorem dX9_ifPassed_29 : decode cX9_ifPassed 29 = .ok (.dup, 1) := by decide +kernel
theorem dX9_ifPassed_30 : decode cX9_ifPassed 30 = .ok (.ldc 209, 2) := by decide +kernel
theorem dX9_ifPassed_32 : decode cX9_ifPassed 32 = .ok (.invokespecial 55, 3) := by decide +kernel
theorem dX9_ifPassed_35 : decode cX9_ifPassed 35 = .ok (.athrow, 1) := by decide +kernel
theorem dX9_ifPassed_36 : decode cX9_ifPassed 36 = .ok (.aload_n 0, 1) := by decide +kernel
theorem dX9_ifPassed_37 : decode cX9_ifPassed 37 = .ok (.getfield 16, 3) := by decide +kernel
theorem dX9_ifPassed_40 : decode cX9_ifPassed 40 = .ok (.aload_n 0, 1) := by decide +kernel
theorem dX9_ifPassed_41 : decode cX9_ifPassed 41 = .ok (.getfield 12, 3) := by decide +kernel
theorem dX9_ifPassed_44 : decode cX9_ifPassed 44 = .ok (.invokevirtual 211, 3) := by decide +kernel
theorem dX9_ifPassed_47 : decode cX9_ifPassed 47 = .ok (.aload_n 0, 1) := by decide +kernel
theorem dX9_ifPassed_48 : decode cX9_ifPassed 48 = .ok (.getfield 43, 3) := by decide +kernel
theorem dX9_ifPassed_51 : decode cX9_ifPassed 51 = .ok (.aload_n 0, 1) := by decide +kernel
theorem dX9_ifPassed_52 : decode cX9_ifPassed 52 = .ok (.getfield 16, 3) := by decide +kernel
theorem dX9_ifPassed_55 : decode cX9_ifPassed 55 = .ok (.iload_n 1, 1) := by decide +kernel
theorem dX9_ifPassed_56 : decode cX9_ifPassed 56 = .ok (.invokevirtual 124, 3) := by decide +kernel
theorem dX9_ifPassed_59 : decode cX9_ifPassed 59 = .ok (.aload_n 0, 1) := by decide +kernel
theorem dX9_ifPassed_60 : decode cX9_ifPassed 60 = .ok (.getfield 16, 3) := by decide +kernel
theorem dX9_ifPassed_63 : decode cX9_ifPassed 63 = .ok (.iload_n 2, 1) := by decide +kernel
theorem dX9_ifPassed_64 : decode cX9_ifPassed 64 = .ok (.invokevirtual 214, 3) := by decide +kernel
theorem dX9_ifPassed_67 : decode cX9_ifPassed 67 = .ok (.ireturn, 1) := by decide +kernel
theorem dX9_arrivesIn_0 : decode cX9_arrivesIn 0 = .ok (.aload_n 0, 1) := by decide +kernel
theorem dX9_arrivesIn_1 : decode cX9_arrivesIn 1 = .ok (.iload_n 1, 1) := by decide +kernel
theorem dX9_arrivesIn_2 : decode cX9_arrivesIn 2 = .ok (.invokevirtual 99, 3) := by decide +kernel
theorem dX9_arrivesIn_5 : decode cX9_arrivesIn 5 = .ok (.aload_n 0, 1) := by decide +kernel
theorem dX9_arrivesIn_6 : decode cX9_arrivesIn 6 = .ok (.getfield 16, 3) := by decide +kernel
theorem dX9_arrivesIn_9 : decode cX9_arrivesIn 9 = .ok (.aload_n 0, 1) := by decide +kernel
theorem dX9_arrivesIn_10 : decode cX9_arrivesIn 10 = .ok (.getfield 12, 3) := by decide +kernel
theorem dX9_arrivesIn_13 : decode cX9_arrivesIn 13 = .ok (.invokevirtual 211, 3) := by decide +kernel
theorem dX9_arrivesIn_16 : decode cX9_arrivesIn 16 = .ok (.aload_n 0, 1) := by decide +kernel
theorem dX9_arrivesIn_17 : decode cX9_arrivesIn 17 = .ok (.getfield 16, 3) := by decide +kernel
theorem dX9_arrivesIn_20 : decode cX9_arrivesIn 20 = .ok (.getfield 215, 3) := by decide +kernel
theorem dX9_arrivesIn_23 : decode cX9_arrivesIn 23 = .ok (.iload_n 1, 1) := by decide +kernel
theorem dX9_arrivesIn_24 : decode cX9_arrivesIn 24 = .ok (.aaload, 1) := by decide +kernel
theorem dX9_arrivesIn_25 : decode cX9_arrivesIn 25 = .ok (.astore_n 2, 1) := by decide +kernel
theorem dX9_arrivesIn_26 : decode cX9_arrivesIn 26 = .ok (.iconst 0, 1) := by decide +kernel
theorem dX9_arrivesIn_27 : decode cX9_arrivesIn 27 = .ok (.istore_n 3, 1) := by decide +kernel
theorem dX9_arrivesIn_28 : decode cX9_arrivesIn 28 = .ok (.iload_n 3, 1) := by decide +kernel
theorem dX9_arrivesIn_29 : decode cX9_arrivesIn 29 = .ok (.bipush 60, 2) := by decide +kernel
theorem dX9_arrivesIn_31 : decode cX9_arrivesIn 31 = .ok (.if_icmp .gt 44, 3) := by decide +kernel
theorem dX9_arrivesIn_34 : decode cX9_arrivesIn 34 = .ok (.aload_n 2, 1) := by decide +kernel
theorem dX9_arrivesIn_35 : decode cX9_arrivesIn 35 = .ok (.getfield 218, 3) := by decide +kernel
theorem dX9_arrivesIn_38 : decode cX9_arrivesIn 38 = .ok (.iconst 2, 1) := by decide +kernel
theorem dX9_arrivesIn_39 : decode cX9_arrivesIn 39 = .ok (.if_icmp .ne 5, 3) := by decide +kernel
theorem dX9_arrivesIn_42 : decode cX9_arrivesIn 42 = .ok (.iconst (-1), 1) := by decide +kernel
theorem dX9_arrivesIn_43 : decode cX9_arrivesIn 43 = .ok (.ireturn, 1) := by decide +kernel
theorem dX9_arrivesIn_44 : decode cX9_arrivesIn 44 = .ok (.aload_n 2, 1) := by decide +kernel
theorem dX9_arrivesIn_45 : decode cX9_arrivesIn 45 = .ok (.getfield 223, 3) := by decide +kernel
theorem dX9_arrivesIn_48 : decode cX9_arrivesIn 48 = .ok (.aload_n 2, 1) := by decide +kernel
theorem dX9_arrivesIn_49 : decode cX9_arrivesIn 49 = .ok (.getfield 226, 3) := by decide +kernel
theorem dX9_arrivesIn_52 : decode cX9_arrivesIn 52 = .ok (.if_icmp .ne 5, 3) := by decide +kernel
theorem dX9_arrivesIn_55 : decode cX9_arrivesIn 55 = .ok (.iload_n 3, 1) := by decide +kernel
theorem dX9_arrivesIn_56 : decode cX9_arrivesIn 56 = .ok (.ireturn, 1) := by decide +kernel
theorem dX9_arrivesIn_57 : decode cX9_arrivesIn 57 = .ok (.aload_n 0, 1) := by decide +kernel
theorem dX9_arrivesIn_58 : decode cX9_arrivesIn 58 = .ok (.getfield 43, 3) := by decide +kernel
theorem dX9_arrivesIn_61 : decode cX9_arrivesIn 61 = .ok (.aload_n 0, 1) := by decide +kernel
theorem dX9_arrivesIn_62 : decode cX9_arrivesIn 62 = .ok (.getfield 16, 3) := by decide +kernel
theorem dX9_arrivesIn_65 : decode cX9_arrivesIn 65 = .ok (.iconst 1, 1) := by decide +kernel
theorem dX9_arrivesIn_66 : decode cX9_arrivesIn 66 = .ok (.invokevirtual 124, 3) := by decide +kernel
theorem dX9_arrivesIn_69 : decode cX9_arrivesIn 69 = .ok (.iinc 3 1, 3) := by decide +kernel
theorem dX9_arrivesIn_72 : decode cX9_arrivesIn 72 = .ok (.goto (-44), 3) := by decide +kernel
theorem dX9_arrivesIn_75 : decode cX9_arrivesIn 75 = .ok (.iconst (-1), 1) := by decide +kernel
theorem dX9_arrivesIn_76 : decode cX9_arrivesIn 76 = .ok (.ireturn, 1) := by decide +kernel
theorem dX9_strengthLeft_0 : decode cX9_strengthLeft 0 = .ok (.aload_n 0, 1) := by decide +kernel
theorem dX9_strengthLeft_1 : decode cX9_strengthLeft 1 = .ok (.getfield 12, 3) := by decide +kernel
theorem dX9_strengthLeft_4 : decode cX9_strengthLeft 4 = .ok (.invokevirtual 229, 3) := by decide +kernel
theorem dX9_strengthLeft_7 : decode cX9_strengthLeft 7 = .ok (.dreturn, 1) := by decide +kernel
theorem dX9_mix_0 : decode cX9_mix 0 = .ok (.ldc2_w 282, 3) := by decide +kernel
theorem dX9_mix_3 : decode cX9_mix 3 = .ok (.lload_n 0, 1) := by decide +kernel
theorem dX9_mix_4 : decode cX9_mix 4 = .ok (.lmul, 1) := by decide +kernel
theorem dX9_mix_5 : decode cX9_mix 5 = .ok (.lload_n 2, 1) := by decide +kernel
theorem dX9_mix_6 : decode cX9_mix 6 = .ok (.ladd, 1) := by decide +kernel
theorem dX9_mix_7 : decode cX9_mix 7 = .ok (.lreturn, 1) := by decide +kernel
theorem dX9_mixCounts_0 : decode cX9_mixCounts 0 = .ok (.lload_n 1, 1) := by decide +kernel
theorem dX9_mixCounts_1 : decode cX9_mixCounts 1 = .ok (.lstore_n 3, 1) := by decide +kernel
theorem dX9_mixCounts_2 : decode cX9_mixCounts 2 = .ok (.iconst 0, 1) := by decide +kernel
theorem dX9_mixCounts_3 : decode cX9_mixCounts 3 = .ok (.istore 5, 2) := by decide +kernel
theorem dX9_mixCounts_5 : decode cX9_mixCounts 5 = .ok (.iload 5, 2) := by decide +kernel
theorem dX9_mixCounts_7 : decode cX9_mixCounts 7 = .ok (.bipush 14, 2) := by decide +kernel
theorem dX9_mixCounts_9 : decode cX9_mixCounts 9 = .ok (.if_icmp .ge 21, 3) := by decide +kernel
theorem dX9_mixCounts_12 : decode cX9_mixCounts 12 = .ok (.lload_n 3, 1) := by decide +kernel
theorem dX9_mixCounts_13 : decode cX9_mixCounts 13 = .ok (.aload_n 0, 1) := by decide +kernel
theorem dX9_mixCounts_14 : decode cX9_mixCounts 14 = .ok (.iload 5, 2) := by decide +kernel
theorem dX9_mixCounts_16 : decode cX9_mixCounts 16 = .ok (.invokevirtual 195, 3) := by decide +kernel
theorem dX9_mixCounts_19 : decode cX9_mixCounts 19 = .ok (.i2l, 1) := by decide +kernel
theorem dX9_mixCounts_20 : decode cX9_mixCounts 20 = .ok (.invokestatic 251, 3) := by decide +kernel
theorem dX9_mixCounts_23 : decode cX9_mixCounts 23 = .ok (.lstore_n 3, 1) := by decide +kernel
theorem dX9_mixCounts_24 : decode cX9_mixCounts 24 = .ok (.iinc 5 1, 3) := by decide +kernel
theorem dX9_mixCounts_27 : decode cX9_mixCounts 27 = .ok (.goto (-22), 3) := by decide +kernel
theorem dX9_mixCounts_30 : decode cX9_mixCounts 30 = .ok (.lload_n 3, 1) := by decide +kernel
theorem dX9_mixCounts_31 : decode cX9_mixCounts 31 = .ok (.lreturn, 1) := by decide +kernel
theorem dX9_mixCells_0 : decode cX9_mixCells 0 = .ok (.lload_n 1, 1) := by decide +kernel
theorem dX9_mixCells_1 : decode cX9_mixCells 1 = .ok (.lstore_n 3, 1) := by decide +kernel
theorem dX9_mixCells_2 : decode cX9_mixCells 2 = .ok (.iconst 0, 1) := by decide +kernel
theorem dX9_mixCells_3 : decode cX9_mixCells 3 = .ok (.istore 5, 2) := by decide +kernel
theorem dX9_mixCells_5 : decode cX9_mixCells 5 = .ok (.iload 5, 2) := by decide +kernel
theorem dX9_mixCells_7 : decode cX9_mixCells 7 = .ok (.bipush 96, 2) := by decide +kernel
theorem dX9_mixCells_9 : decode cX9_mixCells 9 = .ok (.if_icmp .ge 41, 3) := by decide +kernel
theorem dX9_mixCells_12 : decode cX9_mixCells 12 = .ok (.iconst 0, 1) := by decide +kernel
theorem dX9_mixCells_13 : decode cX9_mixCells 13 = .ok (.istore 6, 2) := by decide +kernel
theorem dX9_mixCells_15 : decode cX9_mixCells 15 = .ok (.iload 6, 2) := by decide +kernel
theorem dX9_mixCells_17 : decode cX9_mixCells 17 = .ok (.iconst 2, 1) := by decide +kernel
theorem dX9_mixCells_18 : decode cX9_mixCells 18 = .ok (.if_icmp .gt 26, 3) := by decide +kernel
theorem dX9_mixCells_21 : decode cX9_mixCells 21 = .ok (.lload_n 3, 1) := by decide +kernel
theorem dX9_mixCells_22 : decode cX9_mixCells 22 = .ok (.aload_n 0, 1) := by decide +kernel
theorem dX9_mixCells_23 : decode cX9_mixCells 23 = .ok (.getfield 12, 3) := by decide +kernel
theorem dX9_mixCells_26 : decode cX9_mixCells 26 = .ok (.iload 5, 2) := by decide +kernel
theorem dX9_mixCells_28 : decode cX9_mixCells 28 = .ok (.iload 6, 2) := by decide +kernel
theorem dX9_mixCells_30 : decode cX9_mixCells 30 = .ok (.invokevirtual 172, 3) := by decide +kernel
theorem dX9_mixCells_33 : decode cX9_mixCells 33 = .ok (.i2l, 1) := by decide +kernel
theorem dX9_mixCells_34 : decode cX9_mixCells 34 = .ok (.invokestatic 251, 3) := by decide +kernel
theorem dX9_mixCells_37 : decode cX9_mixCells 37 = .ok (.lstore_n 3, 1) := by decide +kernel
theorem dX9_mixCells_38 : decode cX9_mixCells 38 = .ok (.iinc 6 1, 3) := by decide +kernel
theorem dX9_mixCells_41 : decode cX9_mixCells 41 = .ok (.goto (-26), 3) := by decide +kernel
theorem dX9_mixCells_44 : decode cX9_mixCells 44 = .ok (.iinc 5 1, 3) := by decide +kernel
theorem dX9_mixCells_47 : decode cX9_mixCells 47 = .ok (.goto (-42), 3) := by decide +kernel
theorem dX9_mixCells_50 : decode cX9_mixCells 50 = .ok (.lload_n 3, 1) := by decide +kernel
theorem dX9_mixCells_51 : decode cX9_mixCells 51 = .ok (.lreturn, 1) := by decide +kernel
theorem dX9_mixTroops_0 : decode cX9_mixTroops 0 = .ok (.lload_n 1, 1) := by decide +kernel
theorem dX9_mixTroops_1 : decode cX9_mixTroops 1 = .ok (.lstore_n 3, 1) := by decide +kernel
theorem dX9_mixTroops_2 : decode cX9_mixTroops 2 = .ok (.iconst 0, 1) := by decide +kernel
theorem dX9_mixTroops_3 : decode cX9_mixTroops 3 = .ok (.istore 5, 2) := by decide +kernel
theorem dX9_mixTroops_5 : decode cX9_mixTroops 5 = .ok (.iload 5, 2) := by decide +kernel
theorem dX9_mixTroops_7 : decode cX9_mixTroops 7 = .ok (.aload_n 0, 1) := by decide +kernel
theorem dX9_mixTroops_8 : decode cX9_mixTroops 8 = .ok (.getfield 12, 3) := by decide +kernel
theorem dX9_mixTroops_11 : decode cX9_mixTroops 11 = .ok (.getfield 83, 3) := by decide +kernel
theorem dX9_mixTroops_14 : decode cX9_mixTroops 14 = .ok (.if_icmp .ge 61, 3) := by decide +kernel
theorem dX9_mixTroops_17 : decode cX9_mixTroops 17 = .ok (.iconst 0, 1) := by decide +kernel
theorem dX9_mixTroops_18 : decode cX9_mixTroops 18 = .ok (.istore 6, 2) := by decide +kernel
theorem dX9_mixTroops_20 : decode cX9_mixTroops 20 = .ok (.iload 6, 2) := by decide +kernel
theorem dX9_mixTroops_22 : decode cX9_mixTroops 22 = .ok (.bipush 9, 2) := by decide +kernel
theorem dX9_mixTroops_24 : decode cX9_mixTroops 24 = .ok (.if_icmp .ge 26, 3) := by decide +kernel
theorem dX9_mixTroops_27 : decode cX9_mixTroops 27 = .ok (.lload_n 3, 1) := by decide +kernel
theorem dX9_mixTroops_28 : decode cX9_mixTroops 28 = .ok (.aload_n 0, 1) := by decide +kernel
theorem dX9_mixTroops_29 : decode cX9_mixTroops 29 = .ok (.getfield 12, 3) := by decide +kernel
theorem dX9_mixTroops_32 : decode cX9_mixTroops 32 = .ok (.iload 5, 2) := by decide +kernel
theorem dX9_mixTroops_34 : decode cX9_mixTroops 34 = .ok (.iload 6, 2) := by decide +kernel
theorem dX9_mixTroops_36 : decode cX9_mixTroops 36 = .ok (.invokevirtual 175, 3) := by decide +kernel
theorem dX9_mixTroops_39 : decode cX9_mixTroops 39 = .ok (.i2l, 1) := by decide +kernel
theorem dX9_mixTroops_40 : decode cX9_mixTroops 40 = .ok (.invokestatic 251, 3) := by decide +kernel
theorem dX9_mixTroops_43 : decode cX9_mixTroops 43 = .ok (.lstore_n 3, 1) := by decide +kernel
theorem dX9_mixTroops_44 : decode cX9_mixTroops 44 = .ok (.iinc 6 1, 3) := by decide +kernel
theorem dX9_mixTroops_47 : decode cX9_mixTroops 47 = .ok (.goto (-27), 3) := by decide +kernel
theorem dX9_mixTroops_50 : decode cX9_mixTroops 50 = .ok (.lload_n 3, 1) := by decide +kernel
theorem dX9_mixTroops_51 : decode cX9_mixTroops 51 = .ok (.aload_n 0, 1) := by decide +kernel
theorem dX9_mixTroops_52 : decode cX9_mixTroops 52 = .ok (.getfield 36, 3) := by decide +kernel
theorem dX9_mixTroops_55 : decode cX9_mixTroops 55 = .ok (.aload_n 0, 1) := by decide +kernel
theorem dX9_mixTroops_56 : decode cX9_mixTroops 56 = .ok (.getfield 12, 3) := by decide +kernel
theorem dX9_mixTroops_59 : decode cX9_mixTroops 59 = .ok (.iload 5, 2) := by decide +kernel
theorem dX9_mixTroops_61 : decode cX9_mixTroops 61 = .ok (.invokevirtual 102, 3) := by decide +kernel
theorem dX9_mixTroops_64 : decode cX9_mixTroops 64 = .ok (.i2l, 1) := by decide +kernel
theorem dX9_mixTroops_65 : decode cX9_mixTroops 65 = .ok (.invokestatic 251, 3) := by decide +kernel
theorem dX9_mixTroops_68 : decode cX9_mixTroops 68 = .ok (.lstore_n 3, 1) := by decide +kernel
theorem dX9_mixTroops_69 : decode cX9_mixTroops 69 = .ok (.iinc 5 1, 3) := by decide +kernel
theorem dX9_mixTroops_72 : decode cX9_mixTroops 72 = .ok (.goto (-67), 3) := by decide +kernel
theorem dX9_mixTroops_75 : decode cX9_mixTroops 75 = .ok (.lload_n 3, 1) := by decide +kernel
theorem dX9_mixTroops_76 : decode cX9_mixTroops 76 = .ok (.lreturn, 1) := by decide +kernel
theorem dX9_mixOrders_0 : decode cX9_mixOrders 0 = .ok (.lload_n 1, 1) := by decide +kernel
theorem dX9_mixOrders_1 : decode cX9_mixOrders 1 = .ok (.lstore_n 3, 1) := by decide +kernel
theorem dX9_mixOrders_2 : decode cX9_mixOrders 2 = .ok (.iconst 0, 1) := by decide +kernel
theorem dX9_mixOrders_3 : decode cX9_mixOrders 3 = .ok (.istore 5, 2) := by decide +kernel
theorem dX9_mixOrders_5 : decode cX9_mixOrders 5 = .ok (.iload 5, 2) := by decide +kernel
theorem dX9_mixOrders_7 : decode cX9_mixOrders 7 = .ok (.aload_n 0, 1) := by decide +kernel
theorem dX9_mixOrders_8 : decode cX9_mixOrders 8 = .ok (.getfield 12, 3) := by decide +kernel
theorem dX9_mixOrders_11 : decode cX9_mixOrders 11 = .ok (.getfield 178, 3) := by decide +kernel
theorem dX9_mixOrders_14 : decode cX9_mixOrders 14 = .ok (.if_icmp .ge 45, 3) := by decide +kernel
theorem dX9_mixOrders_17 : decode cX9_mixOrders 17 = .ok (.iconst 0, 1) := by decide +kernel
theorem dX9_mixOrders_18 : decode cX9_mixOrders 18 = .ok (.istore 6, 2) := by decide +kernel
theorem dX9_mixOrders_20 : decode cX9_mixOrders 20 = .ok (.iload 6, 2) := by decide +kernel
theorem dX9_mixOrders_22 : decode cX9_mixOrders 22 = .ok (.iconst 4, 1) := by decide +kernel
theorem dX9_mixOrders_23 : decode cX9_mixOrders 23 = .ok (.if_icmp .ge 30, 3) := by decide +kernel
theorem dX9_mixOrders_26 : decode cX9_mixOrders 26 = .ok (.lload_n 3, 1) := by decide +kernel
theorem dX9_mixOrders_27 : decode cX9_mixOrders 27 = .ok (.aload_n 0, 1) := by decide +kernel
theorem dX9_mixOrders_28 : decode cX9_mixOrders 28 = .ok (.getfield 12, 3) := by decide +kernel
theorem dX9_mixOrders_31 : decode cX9_mixOrders 31 = .ok (.getfield 186, 3) := by decide +kernel
theorem dX9_mixOrders_34 : decode cX9_mixOrders 34 = .ok (.iload 5, 2) := by decide +kernel
theorem dX9_mixOrders_36 : decode cX9_mixOrders 36 = .ok (.aaload, 1) := by decide +kernel
theorem dX9_mixOrders_37 : decode cX9_mixOrders 37 = .ok (.iload 6, 2) := by decide +kernel
theorem dX9_mixOrders_39 : decode cX9_mixOrders 39 = .ok (.invokevirtual 190, 3) := by decide +kernel
theorem dX9_mixOrders_42 : decode cX9_mixOrders 42 = .ok (.i2l, 1) := by decide +kernel
theorem dX9_mixOrders_43 : decode cX9_mixOrders 43 = .ok (.invokestatic 251, 3) := by decide +kernel
theorem dX9_mixOrders_46 : decode cX9_mixOrders 46 = .ok (.lstore_n 3, 1) := by decide +kernel
theorem dX9_mixOrders_47 : decode cX9_mixOrders 47 = .ok (.iinc 6 1, 3) := by decide +kernel
theorem dX9_mixOrders_50 : decode cX9_mixOrders 50 = .ok (.goto (-30), 3) := by decide +kernel
theorem dX9_mixOrders_53 : decode cX9_mixOrders 53 = .ok (.iinc 5 1, 3) := by decide +kernel
theorem dX9_mixOrders_56 : decode cX9_mixOrders 56 = .ok (.goto (-51), 3) := by decide +kernel
theorem dX9_mixOrders_59 : decode cX9_mixOrders 59 = .ok (.lload_n 3, 1) := by decide +kernel
theorem dX9_mixOrders_60 : decode cX9_mixOrders 60 = .ok (.lreturn, 1) := by decide +kernel
theorem dX9_mixAhead_0 : decode cX9_mixAhead 0 = .ok (.aload_n 0, 1) := by decide +kernel
theorem dX9_mixAhead_1 : decode cX9_mixAhead 1 = .ok (.getfield 16, 3) := by decide +kernel
theorem dX9_mixAhead_4 : decode cX9_mixAhead 4 = .ok (.aload_n 0, 1) := by decide +kernel
theorem dX9_mixAhead_5 : decode cX9_mixAhead 5 = .ok (.getfield 12, 3) := by decide +kernel
theorem dX9_mixAhead_8 : decode cX9_mixAhead 8 = .ok (.invokevirtual 211, 3) := by decide +kernel
theorem dX9_mixAhead_11 : decode cX9_mixAhead 11 = .ok (.aload_n 0, 1) := by decide +kernel
theorem dX9_mixAhead_12 : decode cX9_mixAhead 12 = .ok (.getfield 43, 3) := by decide +kernel
theorem dX9_mixAhead_15 : decode cX9_mixAhead 15 = .ok (.aload_n 0, 1) := by decide +kernel
theorem dX9_mixAhead_16 : decode cX9_mixAhead 16 = .ok (.getfield 16, 3) := by decide +kernel
theorem dX9_mixAhead_19 : decode cX9_mixAhead 19 = .ok (.bipush 10, 2) := by decide +kernel
theorem dX9_mixAhead_21 : decode cX9_mixAhead 21 = .ok (.invokevirtual 124, 3) := by decide +kernel
theorem dX9_mixAhead_24 : decode cX9_mixAhead 24 = .ok (.lload_n 1, 1) := by decide +kernel
theorem dX9_mixAhead_25 : decode cX9_mixAhead 25 = .ok (.aload_n 0, 1) := by decide +kernel
theorem dX9_mixAhead_26 : decode cX9_mixAhead 26 = .ok (.getfield 16, 3) := by decide +kernel
theorem dX9_mixAhead_29 : decode cX9_mixAhead 29 = .ok (.iconst 2, 1) := by decide +kernel
theorem dX9_mixAhead_30 : decode cX9_mixAhead 30 = .ok (.invokevirtual 214, 3) := by decide +kernel
theorem dX9_mixAhead_33 : decode cX9_mixAhead 33 = .ok (.i2l, 1) := by decide +kernel
theorem dX9_mixAhead_34 : decode cX9_mixAhead 34 = .ok (.invokestatic 251, 3) := by decide +kernel
theorem dX9_mixAhead_37 : decode cX9_mixAhead 37 = .ok (.lstore_n 3, 1) := by decide +kernel
theorem dX9_mixAhead_38 : decode cX9_mixAhead 38 = .ok (.lload_n 3, 1) := by decide +kernel
theorem dX9_mixAhead_39 : decode cX9_mixAhead 39 = .ok (.aload_n 0, 1) := by decide +kernel
theorem dX9_mixAhead_40 : decode cX9_mixAhead 40 = .ok (.getfield 16, 3) := by decide +kernel
theorem dX9_mixAhead_43 : decode cX9_mixAhead 43 = .ok (.iconst 3, 1) := by decide +kernel
theorem dX9_mixAhead_44 : decode cX9_mixAhead 44 = .ok (.invokevirtual 214, 3) := by decide +kernel
theorem dX9_mixAhead_47 : decode cX9_mixAhead 47 = .ok (.i2l, 1) := by decide +kernel
theorem dX9_mixAhead_48 : decode cX9_mixAhead 48 = .ok (.invokestatic 251, 3) := by decide +kernel
theorem dX9_mixAhead_51 : decode cX9_mixAhead 51 = .ok (.lstore_n 3, 1) := by decide +kernel
theorem dX9_mixAhead_52 : decode cX9_mixAhead 52 = .ok (.bipush 6, 2) := by decide +kernel
theorem dX9_mixAhead_54 : decode cX9_mixAhead 54 = .ok (.istore 5, 2) := by decide +kernel
theorem dX9_mixAhead_56 : decode cX9_mixAhead 56 = .ok (.iload 5, 2) := by decide +kernel
theorem dX9_mixAhead_58 : decode cX9_mixAhead 58 = .ok (.bipush 10, 2) := by decide +kernel
theorem dX9_mixAhead_60 : decode cX9_mixAhead 60 = .ok (.if_icmp .gt 24, 3) := by decide +kernel
theorem dX9_mixAhead_63 : decode cX9_mixAhead 63 = .ok (.lload_n 3, 1) := by decide +kernel
theorem dX9_mixAhead_64 : decode cX9_mixAhead 64 = .ok (.aload_n 0, 1) := by decide +kernel
theorem dX9_mixAhead_65 : decode cX9_mixAhead 65 = .ok (.getfield 16, 3) := by decide +kernel
theorem dX9_mixAhead_68 : decode cX9_mixAhead 68 = .ok (.iload 5, 2) := by decide +kernel
theorem dX9_mixAhead_70 : decode cX9_mixAhead 70 = .ok (.invokevirtual 214, 3) := by decide +kernel
theorem dX9_mixAhead_73 : decode cX9_mixAhead 73 = .ok (.i2l, 1) := by decide +kernel
theorem dX9_mixAhead_74 : decode cX9_mixAhead 74 = .ok (.invokestatic 251, 3) := by decide +kernel
theorem dX9_mixAhead_77 : decode cX9_mixAhead 77 = .ok (.lstore_n 3, 1) := by decide +kernel
theorem dX9_mixAhead_78 : decode cX9_mixAhead 78 = .ok (.iinc 5 1, 3) := by decide +kernel
theorem dX9_mixAhead_81 : decode cX9_mixAhead 81 = .ok (.goto (-25), 3) := by decide +kernel
theorem dX9_mixAhead_84 : decode cX9_mixAhead 84 = .ok (.lload_n 3, 1) := by decide +kernel
theorem dX9_mixAhead_85 : decode cX9_mixAhead 85 = .ok (.lreturn, 1) := by decide +kernel
theorem dX9_bitsOf_0 : decode cX9_bitsOf 0 = .ok (.dload_n 0, 1) := by decide +kernel
theorem dX9_bitsOf_1 : decode cX9_bitsOf 1 = .ok (.dconst 0, 1) := by decide +kernel
theorem dX9_bitsOf_2 : decode cX9_bitsOf 2 = .ok (.dcmp .l, 1) := by decide +kernel
theorem dX9_bitsOf_3 : decode cX9_bitsOf 3 = .ok (.ifCond .gt 5, 3) := by decide +kernel
theorem dX9_bitsOf_6 : decode cX9_bitsOf 6 = .ok (.lconst 0, 1) := by decide +kernel
theorem dX9_bitsOf_7 : decode cX9_bitsOf 7 = .ok (.lreturn, 1) := by decide +kernel
theorem dX9_bitsOf_8 : decode cX9_bitsOf 8 = .ok (.dload_n 0, 1) := by decide +kernel
theorem dX9_bitsOf_9 : decode cX9_bitsOf 9 = .ok (.dstore_n 2, 1) := by decide +kernel
theorem dX9_bitsOf_10 : decode cX9_bitsOf 10 = .ok (.ldc2_w 287, 3) := by decide +kernel
theorem dX9_bitsOf_13 : decode cX9_bitsOf 13 = .ok (.lstore 4, 2) := by decide +kernel
theorem dX9_bitsOf_15 : decode cX9_bitsOf 15 = .ok (.dload_n 2, 1) := by decide +kernel
theorem dX9_bitsOf_16 : decode cX9_bitsOf 16 = .ok (.dconst 1, 1) := by decide +kernel
theorem dX9_bitsOf_17 : decode cX9_bitsOf 17 = .ok (.dcmp .g, 1) := by decide +kernel
theorem dX9_bitsOf_18 : decode cX9_bitsOf 18 = .ok (.ifCond .ge 25, 3) := by decide +kernel
theorem dX9_bitsOf_21 : decode cX9_bitsOf 21 = .ok (.lload 4, 2) := by decide +kernel
theorem dX9_bitsOf_23 : decode cX9_bitsOf 23 = .ok (.lconst 1, 1) := by decide +kernel
theorem dX9_bitsOf_24 : decode cX9_bitsOf 24 = .ok (.lcmp, 1) := by decide +kernel
theorem dX9_bitsOf_25 : decode cX9_bitsOf 25 = .ok (.ifCond .le 18, 3) := by decide +kernel
theorem dX9_bitsOf_28 : decode cX9_bitsOf 28 = .ok (.dload_n 2, 1) := by decide +kernel
theorem dX9_bitsOf_29 : decode cX9_bitsOf 29 = .ok (.ldc2_w 289, 3) := by decide +kernel
theorem dX9_bitsOf_32 : decode cX9_bitsOf 32 = .ok (.dmul, 1) := by decide +kernel
theorem dX9_bitsOf_33 : decode cX9_bitsOf 33 = .ok (.dstore_n 2, 1) := by decide +kernel
theorem dX9_bitsOf_34 : decode cX9_bitsOf 34 = .ok (.lload 4, 2) := by decide +kernel
theorem dX9_bitsOf_36 : decode cX9_bitsOf 36 = .ok (.lconst 1, 1) := by decide +kernel
theorem dX9_bitsOf_37 : decode cX9_bitsOf 37 = .ok (.lsub, 1) := by decide +kernel
theorem dX9_bitsOf_38 : decode cX9_bitsOf 38 = .ok (.lstore 4, 2) := by decide +kernel
theorem dX9_bitsOf_40 : decode cX9_bitsOf 40 = .ok (.goto (-25), 3) := by decide +kernel
theorem dX9_bitsOf_43 : decode cX9_bitsOf 43 = .ok (.dload_n 2, 1) := by decide +kernel
theorem dX9_bitsOf_44 : decode cX9_bitsOf 44 = .ok (.dconst 1, 1) := by decide +kernel
theorem dX9_bitsOf_45 : decode cX9_bitsOf 45 = .ok (.dsub, 1) := by decide +kernel
theorem dX9_bitsOf_46 : decode cX9_bitsOf 46 = .ok (.ldc2_w 291, 3) := by decide +kernel
theorem dX9_bitsOf_49 : decode cX9_bitsOf 49 = .ok (.dmul, 1) := by decide +kernel
theorem dX9_bitsOf_50 : decode cX9_bitsOf 50 = .ok (.d2l, 1) := by decide +kernel
theorem dX9_bitsOf_51 : decode cX9_bitsOf 51 = .ok (.lstore 6, 2) := by decide +kernel
theorem dX9_bitsOf_53 : decode cX9_bitsOf 53 = .ok (.lload 4, 2) := by decide +kernel
theorem dX9_bitsOf_55 : decode cX9_bitsOf 55 = .ok (.bipush 52, 2) := by decide +kernel
theorem dX9_bitsOf_57 : decode cX9_bitsOf 57 = .ok (.lshl, 1) := by decide +kernel
theorem dX9_bitsOf_58 : decode cX9_bitsOf 58 = .ok (.lload 6, 2) := by decide +kernel
theorem dX9_bitsOf_60 : decode cX9_bitsOf 60 = .ok (.lor, 1) := by decide +kernel
theorem dX9_bitsOf_61 : decode cX9_bitsOf 61 = .ok (.lreturn, 1) := by decide +kernel
theorem dX9_mixText_0 : decode cX9_mixText 0 = .ok (.lload_n 1, 1) := by decide +kernel
theorem dX9_mixText_1 : decode cX9_mixText 1 = .ok (.aload_n 0, 1) := by decide +kernel
theorem dX9_mixText_2 : decode cX9_mixText 2 = .ok (.getfield 29, 3) := by decide +kernel
theorem dX9_mixText_5 : decode cX9_mixText 5 = .ok (.getfield 130, 3) := by decide +kernel
theorem dX9_mixText_8 : decode cX9_mixText 8 = .ok (.i2l, 1) := by decide +kernel
theorem dX9_mixText_9 : decode cX9_mixText 9 = .ok (.invokestatic 251, 3) := by decide +kernel
theorem dX9_mixText_12 : decode cX9_mixText 12 = .ok (.lstore_n 3, 1) := by decide +kernel
theorem dX9_mixText_13 : decode cX9_mixText 13 = .ok (.iconst 0, 1) := by decide +kernel
theorem dX9_mixText_14 : decode cX9_mixText 14 = .ok (.istore 5, 2) := by decide +kernel
theorem dX9_mixText_16 : decode cX9_mixText 16 = .ok (.iload 5, 2) := by decide +kernel
theorem dX9_mixText_18 : decode cX9_mixText 18 = .ok (.aload_n 0, 1) := by decide +kernel
theorem dX9_mixText_19 : decode cX9_mixText 19 = .ok (.getfield 29, 3) := by decide +kernel
theorem dX9_mixText_22 : decode cX9_mixText 22 = .ok (.getfield 130, 3) := by decide +kernel
theorem dX9_mixText_25 : decode cX9_mixText 25 = .ok (.if_icmp .ge 25, 3) := by decide +kernel
theorem dX9_mixText_28 : decode cX9_mixText 28 = .ok (.lload_n 3, 1) := by decide +kernel
theorem dX9_mixText_29 : decode cX9_mixText 29 = .ok (.aload_n 0, 1) := by decide +kernel
theorem dX9_mixText_30 : decode cX9_mixText 30 = .ok (.getfield 29, 3) := by decide +kernel
theorem dX9_mixText_33 : decode cX9_mixText 33 = .ok (.getfield 284, 3) := by decide +kernel
theorem dX9_mixText_36 : decode cX9_mixText 36 = .ok (.iload 5, 2) := by decide +kernel
theorem dX9_mixText_38 : decode cX9_mixText 38 = .ok (.iaload, 1) := by decide +kernel
theorem dX9_mixText_39 : decode cX9_mixText 39 = .ok (.i2l, 1) := by decide +kernel
theorem dX9_mixText_40 : decode cX9_mixText 40 = .ok (.invokestatic 251, 3) := by decide +kernel
theorem dX9_mixText_43 : decode cX9_mixText 43 = .ok (.lstore_n 3, 1) := by decide +kernel
theorem dX9_mixText_44 : decode cX9_mixText 44 = .ok (.iinc 5 1, 3) := by decide +kernel
theorem dX9_mixText_47 : decode cX9_mixText 47 = .ok (.goto (-31), 3) := by decide +kernel
theorem dX9_mixText_50 : decode cX9_mixText 50 = .ok (.lload_n 3, 1) := by decide +kernel
theorem dX9_mixText_51 : decode cX9_mixText 51 = .ok (.lreturn, 1) := by decide +kernel
theorem dX9_digest_0 : decode cX9_digest 0 = .ok (.aload_n 0, 1) := by decide +kernel
theorem dX9_digest_1 : decode cX9_digest 1 = .ok (.ldc2_w 233, 3) := by decide +kernel
theorem dX9_digest_4 : decode cX9_digest 4 = .ok (.invokevirtual 235, 3) := by decide +kernel
theorem dX9_digest_7 : decode cX9_digest 7 = .ok (.lstore_n 1, 1) := by decide +kernel
theorem dX9_digest_8 : decode cX9_digest 8 = .ok (.aload_n 0, 1) := by decide +kernel
theorem dX9_digest_9 : decode cX9_digest 9 = .ok (.lload_n 1, 1) := by decide +kernel
theorem dX9_digest_10 : decode cX9_digest 10 = .ok (.invokevirtual 239, 3) := by decide +kernel
theorem dX9_digest_13 : decode cX9_digest 13 = .ok (.lstore_n 1, 1) := by decide +kernel
theorem dX9_digest_14 : decode cX9_digest 14 = .ok (.aload_n 0, 1) := by decide +kernel
theorem dX9_digest_15 : decode cX9_digest 15 = .ok (.lload_n 1, 1) := by decide +kernel
theorem dX9_digest_16 : decode cX9_digest 16 = .ok (.invokevirtual 242, 3) := by decide +kernel
theorem dX9_digest_19 : decode cX9_digest 19 = .ok (.lstore_n 1, 1) := by decide +kernel
theorem dX9_digest_20 : decode cX9_digest 20 = .ok (.aload_n 0, 1) := by decide +kernel
theorem dX9_digest_21 : decode cX9_digest 21 = .ok (.lload_n 1, 1) := by decide +kernel
theorem dX9_digest_22 : decode cX9_digest 22 = .ok (.invokevirtual 245, 3) := by decide +kernel
theorem dX9_digest_25 : decode cX9_digest 25 = .ok (.lstore_n 1, 1) := by decide +kernel
theorem dX9_digest_26 : decode cX9_digest 26 = .ok (.iconst 0, 1) := by decide +kernel
theorem dX9_digest_27 : decode cX9_digest 27 = .ok (.istore_n 3, 1) := by decide +kernel
theorem dX9_digest_28 : decode cX9_digest 28 = .ok (.iload_n 3, 1) := by decide +kernel
theorem dX9_digest_29 : decode cX9_digest 29 = .ok (.iconst 2, 1) := by decide +kernel
theorem dX9_digest_30 : decode cX9_digest 30 = .ok (.if_icmp .ge 34, 3) := by decide +kernel
theorem dX9_digest_33 : decode cX9_digest 33 = .ok (.lload_n 1, 1) := by decide +kernel
theorem dX9_digest_34 : decode cX9_digest 34 = .ok (.aload_n 0, 1) := by decide +kernel
theorem dX9_digest_35 : decode cX9_digest 35 = .ok (.getfield 12, 3) := by decide +kernel
theorem dX9_digest_38 : decode cX9_digest 38 = .ok (.getfield 64, 3) := by decide +kernel
theorem dX9_digest_41 : decode cX9_digest 41 = .ok (.aload_n 0, 1) := by decide +kernel
theorem dX9_digest_42 : decode cX9_digest 42 = .ok (.getfield 12, 3) := by decide +kernel
theorem dX9_digest_45 : decode cX9_digest 45 = .ok (.getfield 77, 3) := by decide +kernel
theorem dX9_digest_48 : decode cX9_digest 48 = .ok (.iload_n 3, 1) := by decide +kernel
theorem dX9_digest_49 : decode cX9_digest 49 = .ok (.iaload, 1) := by decide +kernel
theorem dX9_digest_50 : decode cX9_digest 50 = .ok (.invokevirtual 248, 3) := by decide +kernel
theorem dX9_digest_53 : decode cX9_digest 53 = .ok (.i2l, 1) := by decide +kernel
theorem dX9_digest_54 : decode cX9_digest 54 = .ok (.invokestatic 251, 3) := by decide +kernel
theorem dX9_digest_57 : decode cX9_digest 57 = .ok (.lstore_n 1, 1) := by decide +kernel
theorem dX9_digest_58 : decode cX9_digest 58 = .ok (.iinc 3 1, 3) := by decide +kernel
theorem dX9_digest_61 : decode cX9_digest 61 = .ok (.goto (-33), 3) := by decide +kernel
theorem dX9_digest_64 : decode cX9_digest 64 = .ok (.aload_n 0, 1) := by decide +kernel
theorem dX9_digest_65 : decode cX9_digest 65 = .ok (.lload_n 1, 1) := by decide +kernel
theorem dX9_digest_66 : decode cX9_digest 66 = .ok (.invokevirtual 255, 3) := by decide +kernel
theorem dX9_digest_69 : decode cX9_digest 69 = .ok (.lstore_n 1, 1) := by decide +kernel
theorem dX9_digest_70 : decode cX9_digest 70 = .ok (.lload_n 1, 1) := by decide +kernel
theorem dX9_digest_71 : decode cX9_digest 71 = .ok (.aload_n 0, 1) := by decide +kernel
theorem dX9_digest_72 : decode cX9_digest 72 = .ok (.getfield 12, 3) := by decide +kernel
theorem dX9_digest_75 : decode cX9_digest 75 = .ok (.invokevirtual 229, 3) := by decide +kernel
theorem dX9_digest_78 : decode cX9_digest 78 = .ok (.invokestatic 258, 3) := by decide +kernel
theorem dX9_digest_81 : decode cX9_digest 81 = .ok (.invokestatic 251, 3) := by decide +kernel
theorem dX9_digest_84 : decode cX9_digest 84 = .ok (.lstore_n 1, 1) := by decide +kernel
theorem dX9_digest_85 : decode cX9_digest 85 = .ok (.aload_n 0, 1) := by decide +kernel
theorem dX9_digest_86 : decode cX9_digest 86 = .ok (.lload_n 1, 1) := by decide +kernel
theorem dX9_digest_87 : decode cX9_digest 87 = .ok (.invokevirtual 262, 3) := by decide +kernel
theorem dX9_digest_90 : decode cX9_digest 90 = .ok (.lreturn, 1) := by decide +kernel
theorem dX10_init_0 : decode cX10_init 0 = .ok (.aload_n 0, 1) := by decide +kernel
theorem dX10_init_1 : decode cX10_init 1 = .ok (.invokespecial 1, 3) := by decide +kernel
theorem dX10_init_4 : decode cX10_init 4 = .ok (.aload_n 0, 1) := by decide +kernel
theorem dX10_init_5 : decode cX10_init 5 = .ok (.sipush 321, 3) := by decide +kernel
theorem dX10_init_8 : decode cX10_init 8 = .ok (.newarray .int, 2) := by decide +kernel
theorem dX10_init_10 : decode cX10_init 10 = .ok (.putfield 7, 3) := by decide +kernel
theorem dX10_init_13 : decode cX10_init 13 = .ok (.aload_n 0, 1) := by decide +kernel
theorem dX10_init_14 : decode cX10_init 14 = .ok (.sipush 1605, 3) := by decide +kernel
theorem dX10_init_17 : decode cX10_init 17 = .ok (.newarray .int, 2) := by decide +kernel
theorem dX10_init_19 : decode cX10_init 19 = .ok (.putfield 13, 3) := by decide +kernel
theorem dX10_init_22 : decode cX10_init 22 = .ok (.aload_n 0, 1) := by decide +kernel
theorem dX10_init_23 : decode cX10_init 23 = .ok (.bipush 60, 2) := by decide +kernel
theorem dX10_init_25 : decode cX10_init 25 = .ok (.newarray .int, 2) := by decide +kernel
theorem dX10_init_27 : decode cX10_init 27 = .ok (.putfield 16, 3) := by decide +kernel
theorem dX10_init_30 : decode cX10_init 30 = .ok (.aload_n 0, 1) := by decide +kernel
theorem dX10_init_31 : decode cX10_init 31 = .ok (.bipush 96, 2) := by decide +kernel
theorem dX10_init_33 : decode cX10_init 33 = .ok (.newarray .int, 2) := by decide +kernel
theorem dX10_init_35 : decode cX10_init 35 = .ok (.putfield 19, 3) := by decide +kernel
theorem dX10_init_38 : decode cX10_init 38 = .ok (.aload_n 0, 1) := by decide +kernel
theorem dX10_init_39 : decode cX10_init 39 = .ok (.bipush 96, 2) := by decide +kernel
theorem dX10_init_41 : decode cX10_init 41 = .ok (.newarray .int, 2) := by decide +kernel
theorem dX10_init_43 : decode cX10_init 43 = .ok (.putfield 22, 3) := by decide +kernel
theorem dX10_init_46 : decode cX10_init 46 = .ok (.aload_n 0, 1) := by decide +kernel
theorem dX10_init_47 : decode cX10_init 47 = .ok (.sipush 321, 3) := by decide +kernel
theorem dX10_init_50 : decode cX10_init 50 = .ok (.newarray .int, 2) := by decide +kernel
theorem dX10_init_52 : decode cX10_init 52 = .ok (.putfield 25, 3) := by decide +kernel
theorem dX10_init_55 : decode cX10_init 55 = .ok (.aload_n 0, 1) := by decide +kernel
theorem dX10_init_56 : decode cX10_init 56 = .ok (.bipush 45, 2) := by decide +kernel
theorem dX10_init_58 : decode cX10_init 58 = .ok (.newarray .int, 2) := by decide +kernel
theorem dX10_init_60 : decode cX10_init 60 = .ok (.putfield 28, 3) := by decide +kernel
theorem dX10_init_63 : decode cX10_init 63 = .ok (.aload_n 0, 1) := by decide +kernel
theorem dX10_init_64 : decode cX10_init 64 = .ok (.getfield 7, 3) := by decide +kernel
theorem dX10_init_67 : decode cX10_init 67 = .ok (.bipush 97, 2) := by decide +kernel
theorem dX10_init_69 : decode cX10_init 69 = .ok (.bipush 95, 2) := by decide +kernel
theorem dX10_init_71 : decode cX10_init 71 = .ok (.iastore, 1) := by decide +kernel
theorem dX10_init_72 : decode cX10_init 72 = .ok (.return_, 1) := by decide +kernel
theorem dX10_thrown_0 : decode cX10_thrown 0 = .ok (.aload_n 0, 1) := by decide +kernel
theorem dX10_thrown_1 : decode cX10_thrown 1 = .ok (.getfield 31, 3) := by decide +kernel
theorem dX10_thrown_4 : decode cX10_thrown 4 = .ok (.ireturn, 1) := by decide +kernel
theorem dX10_within_0 : decode cX10_within 0 = .ok (.iload_n 0, 1) := by decide +kernel
theorem dX10_within_1 : decode cX10_within 1 = .ok (.iload_n 1, 1) := by decide +kernel
theorem dX10_within_2 : decode cX10_within 2 = .ok (.if_icmp .lt 12, 3) := by decide +kernel
theorem dX10_within_5 : decode cX10_within 5 = .ok (.iload_n 0, 1) := by decide +kernel
theorem dX10_within_6 : decode cX10_within 6 = .ok (.iload_n 2, 1) := by decide +kernel
theorem dX10_within_7 : decode cX10_within 7 = .ok (.if_icmp .gt 7, 3) := by decide +kernel
theorem dX10_within_10 : decode cX10_within 10 = .ok (.iconst 1, 1) := by decide +kernel
theorem dX10_within_11 : decode cX10_within 11 = .ok (.goto 4, 3) := by decide +kernel
theorem dX10_within_14 : decode cX10_within 14 = .ok (.iconst 0, 1) := by decide +kernel
theorem dX10_within_15 : decode cX10_within 15 = .ok (.ireturn, 1) := by decide +kernel
theorem dX10_size_0 : decode cX10_size 0 = .ok (.iload_n 0, 1) := by decide +kernel
theorem dX10_size_1 : decode cX10_size 1 = .ok (.ifCond .ge 8, 3) := by decide +kernel
theorem dX10_size_4 : decode cX10_size 4 = .ok (.iload_n 0, 1) := by decide +kernel
theorem dX10_size_5 : decode cX10_size 5 = .ok (.ineg, 1) := by decide +kernel
theorem dX10_size_6 : decode cX10_size 6 = .ok (.goto 4, 3) := by decide +kernel
theorem dX10_size_9 : decode cX10_size 9 = .ok (.iload_n 0, 1) := by decide +kernel
theorem dX10_size_10 : decode cX10_size 10 = .ok (.ireturn, 1) := by decide +kernel
theorem dX10_isCell_0 : decode cX10_isCell 0 = .ok (.iload_n 0, 1) := by decide +kernel
theorem dX10_isCell_1 : decode cX10_isCell 1 = .ok (.iconst 0, 1) := by decide +kernel
theorem dX10_isCell_2 : decode cX10_isCell 2 = .ok (.bipush 95, 2) := by decide +kernel
theorem dX10_isCell_4 : decode cX10_isCell 4 = .ok (.invokestatic 35, 3) := by decide +kernel
theorem dX10_isCell_7 : decode cX10_isCell 7 = .ok (.ireturn, 1) := by decide +kernel
theorem dX10_isSide_0 : decode cX10_isSide 0 = .ok (.iload_n 0, 1) := by decide +kernel
theorem dX10_isSide_1 : decode cX10_isSide 1 = .ok (.iconst 0, 1) := by decide +kernel
theorem dX10_isSide_2 : decode cX10_isSide 2 = .ok (.iconst 1, 1) := by decide +kernel
theorem dX10_isSide_3 : decode cX10_isSide 3 = .ok (.invokestatic 35, 3) := by decide +kernel
theorem dX10_isSide_6 : decode cX10_isSide 6 = .ok (.ireturn, 1) := by decide +kernel
theorem dX10_isTroop_0 : decode cX10_isTroop 0 = .ok (.iload_n 1, 1) := by decide +kernel
theorem dX10_isTroop_1 : decode cX10_isTroop 1 = .ok (.iconst 0, 1) := by decide +kernel
theorem dX10_isTroop_2 : decode cX10_isTroop 2 = .ok (.aload_n 0, 1) := by decide +kernel
theorem dX10_isTroop_3 : decode cX10_isTroop 3 = .ok (.getfield 7, 3) := by decide +kernel
theorem dX10_isTroop_6 : decode cX10_isTroop 6 = .ok (.bipush 98, 2) := by decide +kernel
theorem dX10_isTroop_8 : decode cX10_isTroop 8 = .ok (.iaload, 1) := by decide +kernel
theorem dX10_isTroop_9 : decode cX10_isTroop 9 = .ok (.iconst 1, 1) := by decide +kernel
theorem dX10_isTroop_10 : decode cX10_isTroop 10 = .ok (.isub, 1) := by decide +kernel
theorem dX10_isTroop_11 : decode cX10_isTroop 11 = .ok (.invokestatic 35, 3) := by decide +kernel
theorem dX10_isTroop_14 : decode cX10_isTroop 14 = .ok (.ireturn, 1) := by decide +kernel
theorem dX10_of_0 : decode cX10_of 0 = .ok (.aload_n 0, 1) := by decide +kernel
theorem dX10_of_1 : decode cX10_of 1 = .ok (.getfield 7, 3) := by decide +kernel
theorem dX10_of_4 : decode cX10_of 4 = .ok (.bipush 99, 2) := by decide +kernel
theorem dX10_of_6 : decode cX10_of 6 = .ok (.bipush 8, 2) := by decide +kernel
theorem dX10_of_8 : decode cX10_of 8 = .ok (.iload_n 1, 1) := by decide +kernel
theorem dX10_of_9 : decode cX10_of 9 = .ok (.imul, 1) := by decide +kernel
theorem dX10_of_10 : decode cX10_of 10 = .ok (.iadd, 1) := by decide +kernel
theorem dX10_of_11 : decode cX10_of 11 = .ok (.iload_n 2, 1) := by decide +kernel
theorem dX10_of_12 : decode cX10_of 12 = .ok (.iadd, 1) := by decide +kernel
theorem dX10_of_13 : decode cX10_of 13 = .ok (.iaload, 1) := by decide +kernel
theorem dX10_of_14 : decode cX10_of 14 = .ok (.ireturn, 1) := by decide +kernel
theorem dX10_lay_0 : decode cX10_lay 0 = .ok (.aload_n 0, 1) := by decide +kernel
theorem dX10_lay_1 : decode cX10_lay 1 = .ok (.getfield 7, 3) := by decide +kernel
theorem dX10_lay_4 : decode cX10_lay 4 = .ok (.bipush 99, 2) := by decide +kernel
theorem dX10_lay_6 : decode cX10_lay 6 = .ok (.bipush 8, 2) := by decide +kernel
theorem dX10_lay_8 : decode cX10_lay 8 = .ok (.iload_n 1, 1) := by decide +kernel
theorem dX10_lay_9 : decode cX10_lay 9 = .ok (.imul, 1) := by decide +kernel
theorem dX10_lay_10 : decode cX10_lay 10 = .ok (.iadd, 1) := by decide +kernel
theorem dX10_lay_11 : decode cX10_lay 11 = .ok (.iload_n 2, 1) := by decide +kernel
theorem dX10_lay_12 : decode cX10_lay 12 = .ok (.iadd, 1) := by decide +kernel
theorem dX10_lay_13 : decode cX10_lay 13 = .ok (.iload_n 3, 1) := by decide +kernel
theorem dX10_lay_14 : decode cX10_lay 14 = .ok (.iastore, 1) := by decide +kernel
theorem dX10_lay_15 : decode cX10_lay 15 = .ok (.return_, 1) := by decide +kernel
theorem dX10_isGone_0 : decode cX10_isGone 0 = .ok (.aload_n 0, 1) := by decide +kernel
theorem dX10_isGone_1 : decode cX10_isGone 1 = .ok (.iload_n 1, 1) := by decide +kernel
theorem dX10_isGone_2 : decode cX10_isGone 2 = .ok (.iconst 4, 1) := by decide +kernel
theorem dX10_isGone_3 : decode cX10_isGone 3 = .ok (.invokevirtual 39, 3) := by decide +kernel
theorem dX10_isGone_6 : decode cX10_isGone 6 = .ok (.iconst 2, 1) := by decide +kernel
theorem dX10_isGone_7 : decode cX10_isGone 7 = .ok (.if_icmp .ne 7, 3) := by decide +kernel
theorem dX10_isGone_10 : decode cX10_isGone 10 = .ok (.iconst 1, 1) := by decide +kernel
theorem dX10_isGone_11 : decode cX10_isGone 11 = .ok (.goto 4, 3) := by decide +kernel
theorem dX10_isGone_14 : decode cX10_isGone 14 = .ok (.iconst 0, 1) := by decide +kernel
theorem dX10_isGone_15 : decode cX10_isGone 15 = .ok (.ireturn, 1) := by decide +kernel
theorem dX10_neighbor_0 : decode cX10_neighbor 0 = .ok (.iload_n 0, 1) := by decide +kernel
theorem dX10_neighbor_1 : decode cX10_neighbor 1 = .ok (.bipush 12, 2) := by decide +kernel
theorem dX10_neighbor_3 : decode cX10_neighbor 3 = .ok (.irem, 1) := by decide +kernel
theorem dX10_neighbor_4 : decode cX10_neighbor 4 = .ok (.istore_n 2, 1) := by decide +kernel
theorem dX10_neighbor_5 : decode cX10_neighbor 5 = .ok (.iload_n 1, 1) := by decide +kernel
theorem dX10_neighbor_6 : decode cX10_neighbor 6 = .ok (.tableswitch 70 0 2 #[26, 41, 55], 26) := by decide +kernel
theorem dX10_neighbor_32 : decode cX10_neighbor 32 = .ok (.iload_n 0, 1) := by decide +kernel
theorem dX10_neighbor_33 : decode cX10_neighbor 33 = .ok (.bipush 12, 2) := by decide +kernel
theorem dX10_neighbor_35 : decode cX10_neighbor 35 = .ok (.if_icmp .ge 7, 3) := by decide +kernel
theorem dX10_neighbor_38 : decode cX10_neighbor 38 = .ok (.iconst (-1), 1) := by decide +kernel
theorem dX10_neighbor_39 : decode cX10_neighbor 39 = .ok (.goto 7, 3) := by decide +kernel
theorem dX10_neighbor_42 : decode cX10_neighbor 42 = .ok (.iload_n 0, 1) := by decide +kernel
theorem dX10_neighbor_43 : decode cX10_neighbor 43 = .ok (.bipush 12, 2) := by decide +kernel
theorem dX10_neighbor_45 : decode cX10_neighbor 45 = .ok (.isub, 1) := by decide +kernel
theorem dX10_neighbor_46 : decode cX10_neighbor 46 = .ok (.ireturn, 1) := by decide +kernel
theorem dX10_neighbor_47 : decode cX10_neighbor 47 = .ok (.iload_n 2, 1) := by decide +kernel
theorem dX10_neighbor_48 : decode cX10_neighbor 48 = .ok (.bipush 11, 2) := by decide +kernel
theorem dX10_neighbor_50 : decode cX10_neighbor 50 = .ok (.if_icmp .ne 7, 3) := by decide +kernel
theorem dX10_neighbor_53 : decode cX10_neighbor 53 = .ok (.iconst (-1), 1) := by decide +kernel
theorem dX10_neighbor_54 : decode cX10_neighbor 54 = .ok (.goto 6, 3) := by decide +kernel
theorem dX10_neighbor_57 : decode cX10_neighbor 57 = .ok (.iload_n 0, 1) := by decide +kernel
theorem dX10_neighbor_58 : decode cX10_neighbor 58 = .ok (.iconst 1, 1) := by decide +kernel
theorem dX10_neighbor_59 : decode cX10_neighbor 59 = .ok (.iadd, 1) := by decide +kernel
theorem dX10_neighbor_60 : decode cX10_neighbor 60 = .ok (.ireturn, 1) := by decide +kernel
theorem dX10_neighbor_61 : decode cX10_neighbor 61 = .ok (.iload_n 0, 1) := by decide +kernel
theorem dX10_neighbor_62 : decode cX10_neighbor 62 = .ok (.bipush 84, 2) := by decide +kernel
theorem dX10_neighbor_64 : decode cX10_neighbor 64 = .ok (.if_icmp .lt 7, 3) := by decide +kernel
theorem dX10_neighbor_67 : decode cX10_neighbor 67 = .ok (.iconst (-1), 1) := by decide +kernel
theorem dX10_neighbor_68 : decode cX10_neighbor 68 = .ok (.goto 7, 3) := by decide +kernel
theorem dX10_neighbor_71 : decode cX10_neighbor 71 = .ok (.iload_n 0, 1) := by decide +kernel
theorem dX10_neighbor_72 : decode cX10_neighbor 72 = .ok (.bipush 12, 2) := by decide +kernel
theorem dX10_neighbor_74 : decode cX10_neighbor 74 = .ok (.iadd, 1) := by decide +kernel
theorem dX10_neighbor_75 : decode cX10_neighbor 75 = .ok (.ireturn, 1) := by decide +kernel
theorem dX10_neighbor_76 : decode cX10_neighbor 76 = .ok (.iload_n 2, 1) := by decide +kernel
theorem dX10_neighbor_77 : decode cX10_neighbor 77 = .ok (.ifCond .ne 7, 3) := by decide +kernel
theorem dX10_neighbor_80 : decode cX10_neighbor 80 = .ok (.iconst (-1), 1) := by decide +kernel
theorem dX10_neighbor_81 : decode cX10_neighbor 81 = .ok (.goto 6, 3) := by decide +kernel
theorem dX10_neighbor_84 : decode cX10_neighbor 84 = .ok (.iload_n 0, 1) := by decide +kernel
theorem dX10_neighbor_85 : decode cX10_neighbor 85 = .ok (.iconst 1, 1) := by decide +kernel
theorem dX10_neighbor_86 : decode cX10_neighbor 86 = .ok (.isub, 1) := by decide +kernel
theorem dX10_neighbor_87 : decode cX10_neighbor 87 = .ok (.ireturn, 1) := by decide +kernel
theorem dX10_stepTo_0 : decode cX10_stepTo 0 = .ok (.iload_n 1, 1) := by decide +kernel
theorem dX10_stepTo_1 : decode cX10_stepTo 1 = .ok (.iload_n 2, 1) := by decide +kernel
theorem dX10_stepTo_2 : decode cX10_stepTo 2 = .ok (.invokestatic 43, 3) := by decide +kernel
theorem dX10_stepTo_5 : decode cX10_stepTo 5 = .ok (.istore_n 3, 1) := by decide +kernel
theorem dX10_stepTo_6 : decode cX10_stepTo 6 = .ok (.iload_n 3, 1) := by decide +kernel
theorem dX10_stepTo_7 : decode cX10_stepTo 7 = .ok (.iconst (-1), 1) := by decide +kernel
theorem dX10_stepTo_8 : decode cX10_stepTo 8 = .ok (.if_icmp .eq 23, 3) := by decide +kernel
theorem dX10_stepTo_11 : decode cX10_stepTo 11 = .ok (.aload_n 0, 1) := by decide +kernel
theorem dX10_stepTo_12 : decode cX10_stepTo 12 = .ok (.getfield 7, 3) := by decide +kernel
theorem dX10_stepTo_15 : decode cX10_stepTo 15 = .ok (.iload_n 3, 1) := by decide +kernel
theorem dX10_stepTo_16 : decode cX10_stepTo 16 = .ok (.iaload, 1) := by decide +kernel
theorem dX10_stepTo_17 : decode cX10_stepTo 17 = .ok (.aload_n 0, 1) := by decide +kernel
theorem dX10_stepTo_18 : decode cX10_stepTo 18 = .ok (.getfield 7, 3) := by decide +kernel
theorem dX10_stepTo_21 : decode cX10_stepTo 21 = .ok (.iload_n 1, 1) := by decide +kernel
theorem dX10_stepTo_22 : decode cX10_stepTo 22 = .ok (.iaload, 1) := by decide +kernel
theorem dX10_stepTo_23 : decode cX10_stepTo 23 = .ok (.isub, 1) := by decide +kernel
theorem dX10_stepTo_24 : decode cX10_stepTo 24 = .ok (.invokestatic 46, 3) := by decide +kernel
theorem dX10_stepTo_27 : decode cX10_stepTo 27 = .ok (.iconst 2, 1) := by decide +kernel
theorem dX10_stepTo_28 : decode cX10_stepTo 28 = .ok (.if_icmp .le 7, 3) := by decide +kernel
theorem dX10_stepTo_31 : decode cX10_stepTo 31 = .ok (.iconst (-1), 1) := by decide +kernel
theorem dX10_stepTo_32 : decode cX10_stepTo 32 = .ok (.goto 4, 3) := by decide +kernel
theorem dX10_stepTo_35 : decode cX10_stepTo 35 = .ok (.iload_n 3, 1) := by decide +kernel
theorem dX10_stepTo_36 : decode cX10_stepTo 36 = .ok (.ireturn, 1) := by decide +kernel
theorem dX10_troopAt_0 : decode cX10_troopAt 0 = .ok (.iconst (-1), 1) := by decide +kernel
theorem dX10_troopAt_1 : decode cX10_troopAt 1 = .ok (.istore_n 2, 1) := by decide +kernel
theorem dX10_troopAt_2 : decode cX10_troopAt 2 = .ok (.iconst 0, 1) := by decide +kernel
theorem dX10_troopAt_3 : decode cX10_troopAt 3 = .ok (.istore_n 3, 1) := by decide +kernel
theorem dX10_troopAt_4 : decode cX10_troopAt 4 = .ok (.iload_n 3, 1) := by decide +kernel
theorem dX10_troopAt_5 : decode cX10_troopAt 5 = .ok (.aload_n 0, 1) := by decide +kernel
theorem dX10_troopAt_6 : decode cX10_troopAt 6 = .ok (.getfield 7, 3) := by decide +kernel
theorem dX10_troopAt_9 : decode cX10_troopAt 9 = .ok (.bipush 98, 2) := by decide +kernel
theorem dX10_troopAt_11 : decode cX10_troopAt 11 = .ok (.iaload, 1) := by decide +kernel
theorem dX10_troopAt_12 : decode cX10_troopAt 12 = .ok (.if_icmp .ge 33, 3) := by decide +kernel
theorem dX10_troopAt_15 : decode cX10_troopAt 15 = .ok (.aload_n 0, 1) := by decide +kernel
theorem dX10_troopAt_16 : decode cX10_troopAt 16 = .ok (.iload_n 3, 1) := by decide +kernel
theorem dX10_troopAt_17 : decode cX10_troopAt 17 = .ok (.invokevirtual 50, 3) := by decide +kernel
theorem dX10_troopAt_20 : decode cX10_troopAt 20 = .ok (.ifCond .ne 17, 3) := by decide +kernel
theorem dX10_troopAt_23 : decode cX10_troopAt 23 = .ok (.aload_n 0, 1) := by decide +kernel
theorem dX10_troopAt_24 : decode cX10_troopAt 24 = .ok (.iload_n 3, 1) := by decide +kernel
theorem dX10_troopAt_25 : decode cX10_troopAt 25 = .ok (.iconst 1, 1) := by decide +kernel
theorem dX10_troopAt_26 : decode cX10_troopAt 26 = .ok (.invokevirtual 39, 3) := by decide +kernel
theorem dX10_troopAt_29 : decode cX10_troopAt 29 = .ok (.iload_n 1, 1) := by decide +kernel
theorem dX10_troopAt_30 : decode cX10_troopAt 30 = .ok (.if_icmp .ne 7, 3) := by decide +kernel
theorem dX10_troopAt_33 : decode cX10_troopAt 33 = .ok (.iload_n 3, 1) := by decide +kernel
theorem dX10_troopAt_34 : decode cX10_troopAt 34 = .ok (.goto 4, 3) := by decide +kernel
theorem dX10_troopAt_37 : decode cX10_troopAt 37 = .ok (.iload_n 2, 1) := by decide +kernel
theorem dX10_troopAt_38 : decode cX10_troopAt 38 = .ok (.istore_n 2, 1) := by decide +kernel
theorem dX10_troopAt_39 : decode cX10_troopAt 39 = .ok (.iinc 3 1, 3) := by decide +kernel
theorem dX10_troopAt_42 : decode cX10_troopAt 42 = .ok (.goto (-38), 3) := by decide +kernel
theorem dX10_troopAt_45 : decode cX10_troopAt 45 = .ok (.iload_n 2, 1) := by decide +kernel
theorem dX10_troopAt_46 : decode cX10_troopAt 46 = .ok (.ireturn, 1) := by decide +kernel
theorem dX10_spread_0 : decode cX10_spread 0 = .ok (.iconst 0, 1) := by decide +kernel
theorem dX10_spread_1 : decode cX10_spread 1 = .ok (.istore_n 3, 1) := by decide +kernel
theorem dX10_spread_2 : decode cX10_spread 2 = .ok (.iload_n 3, 1) := by decide +kernel
theorem dX10_spread_3 : decode cX10_spread 3 = .ok (.bipush 96, 2) := by decide +kernel
theorem dX10_spread_5 : decode cX10_spread 5 = .ok (.if_icmp .ge 16, 3) := by decide +kernel
theorem dX10_spread_8 : decode cX10_spread 8 = .ok (.aload_n 0, 1) := by decide +kernel
theorem dX10_spread_9 : decode cX10_spread 9 = .ok (.getfield 19, 3) := by decide +kernel
theorem dX10_spread_12 : decode cX10_spread 12 = .ok (.iload_n 3, 1) := by decide +kernel
theorem dX10_spread_13 : decode cX10_spread 13 = .ok (.iconst (-1), 1) := by decide +kernel
theorem dX10_spread_14 : decode cX10_spread 14 = .ok (.iastore, 1) := by decide +kernel
theorem dX10_spread_15 : decode cX10_spread 15 = .ok (.iinc 3 1, 3) := by decide +kernel
theorem dX10_spread_18 : decode cX10_spread 18 = .ok (.goto (-16), 3) := by decide +kernel
theorem dX10_spread_21 : decode cX10_spread 21 = .ok (.aload_n 0, 1) := by decide +kernel
theorem dX10_spread_22 : decode cX10_spread 22 = .ok (.getfield 19, 3) := by decide +kernel
theorem dX10_spread_25 : decode cX10_spread 25 = .ok (.iload_n 1, 1) := by decide +kernel
theorem dX10_spread_26 : decode cX10_spread 26 = .ok (.iconst 0, 1) := by decide +kernel
theorem dX10_spread_27 : decode cX10_spread 27 = .ok (.iastore, 1) := by decide +kernel
theorem dX10_spread_28 : decode cX10_spread 28 = .ok (.aload_n 0, 1) := by decide +kernel
theorem dX10_spread_29 : decode cX10_spread 29 = .ok (.getfield 22, 3) := by decide +kernel
theorem dX10_spread_32 : decode cX10_spread 32 = .ok (.iconst 0, 1) := by decide +kernel
theorem dX10_spread_33 : decode cX10_spread 33 = .ok (.iload_n 1, 1) := by decide +kernel
theorem dX10_spread_34 : decode cX10_spread 34 = .ok (.iastore, 1) := by decide +kernel
theorem dX10_spread_35 : decode cX10_spread 35 = .ok (.iconst 1, 1) := by decide +kernel
theorem dX10_spread_36 : decode cX10_spread 36 = .ok (.istore_n 3, 1) := by decide +kernel
theorem dX10_spread_37 : decode cX10_spread 37 = .ok (.iconst 0, 1) := by decide +kernel
theorem dX10_spread_38 : decode cX10_spread 38 = .ok (.istore 4, 2) := by decide +kernel
theorem dX10_spread_40 : decode cX10_spread 40 = .ok (.iload 4, 2) := by decide +kernel
theorem dX10_spread_42 : decode cX10_spread 42 = .ok (.iload_n 3, 1) := by decide +kernel
theorem dX10_spread_43 : decode cX10_spread 43 = .ok (.if_icmp .ge 113, 3) := by decide +kernel
theorem dX10_spread_46 : decode cX10_spread 46 = .ok (.iconst 0, 1) := by decide +kernel
theorem dX10_spread_47 : decode cX10_spread 47 = .ok (.istore 5, 2) := by decide +kernel
theorem dX10_spread_49 : decode cX10_spread 49 = .ok (.iload 5, 2) := by decide +kernel
theorem dX10_spread_51 : decode cX10_spread 51 = .ok (.iconst 4, 1) := by decide +kernel
theorem dX10_spread_52 : decode cX10_spread 52 = .ok (.if_icmp .ge 98, 3) := by decide +kernel
theorem dX10_spread_55 : decode cX10_spread 55 = .ok (.aload_n 0, 1) := by decide +kernel
theorem dX10_spread_56 : decode cX10_spread 56 = .ok (.aload_n 0, 1) := by decide +kernel
theorem dX10_spread_57 : decode cX10_spread 57 = .ok (.getfield 22, 3) := by decide +kernel
theorem dX10_spread_60 : decode cX10_spread 60 = .ok (.iload 4, 2) := by decide +kernel
theorem dX10_spread_62 : decode cX10_spread 62 = .ok (.iaload, 1) := by decide +kernel
theorem dX10_spread_63 : decode cX10_spread 63 = .ok (.iload 5, 2) := by decide +kernel
theorem dX10_spread_65 : decode cX10_spread 65 = .ok (.invokevirtual 54, 3) := by decide +kernel
theorem dX10_spread_68 : decode cX10_spread 68 = .ok (.istore 6, 2) := by decide +kernel
theorem dX10_spread_70 : decode cX10_spread 70 = .ok (.iload 6, 2) := by decide +kernel
theorem dX10_spread_72 : decode cX10_spread 72 = .ok (.iconst (-1), 1) := by decide +kernel
theorem dX10_spread_73 : decode cX10_spread 73 = .ok (.if_icmp .eq 71, 3) := by decide +kernel
theorem dX10_spread_76 : decode cX10_spread 76 = .ok (.aload_n 0, 1) := by decide +kernel
theorem dX10_spread_77 : decode cX10_spread 77 = .ok (.getfield 19, 3) := by decide +kernel
theorem dX10_spread_80 : decode cX10_spread 80 = .ok (.iload 6, 2) := by decide +kernel
theorem dX10_spread_82 : decode cX10_spread 82 = .ok (.iaload, 1) := by decide +kernel
theorem dX10_spread_83 : decode cX10_spread 83 = .ok (.iconst (-1), 1) := by decide +kernel
theorem dX10_spread_84 : decode cX10_spread 84 = .ok (.if_icmp .ne 60, 3) := by decide +kernel
theorem dX10_spread_87 : decode cX10_spread 87 = .ok (.iload_n 2, 1) := by decide +kernel
theorem dX10_spread_88 : decode cX10_spread 88 = .ok (.iconst (-1), 1) := by decide +kernel
theorem dX10_spread_89 : decode cX10_spread 89 = .ok (.if_icmp .eq 23, 3) := by decide +kernel
theorem dX10_spread_92 : decode cX10_spread 92 = .ok (.aload_n 0, 1) := by decide +kernel
theorem dX10_spread_93 : decode cX10_spread 93 = .ok (.iload 6, 2) := by decide +kernel
theorem dX10_spread_95 : decode cX10_spread 95 = .ok (.invokevirtual 57, 3) := by decide +kernel
theorem dX10_spread_98 : decode cX10_spread 98 = .ok (.iconst (-1), 1) := by decide +kernel
theorem dX10_spread_99 : decode cX10_spread 99 = .ok (.if_icmp .eq 13, 3) := by decide +kernel
theorem dX10_spread_102 : decode cX10_spread 102 = .ok (.aload_n 0, 1) := by decide +kernel
theorem dX10_spread_103 : decode cX10_spread 103 = .ok (.iload 6, 2) := by decide +kernel
theorem dX10_spread_105 : decode cX10_spread 105 = .ok (.invokevirtual 57, 3) := by decide +kernel
theorem dX10_spread_108 : decode cX10_spread 108 = .ok (.iload_n 2, 1) := by decide +kernel
theorem dX10_spread_109 : decode cX10_spread 109 = .ok (.if_icmp .ne 35, 3) := by decide +kernel
theorem dX10_spread_112 : decode cX10_spread 112 = .ok (.aload_n 0, 1) := by decide +kernel
theorem dX10_spread_113 : decode cX10_spread 113 = .ok (.getfield 19, 3) := by decide +kernel
theorem dX10_spread_116 : decode cX10_spread 116 = .ok (.iload 6, 2) := by decide +kernel
theorem dX10_spread_118 : decode cX10_spread 118 = .ok (.aload_n 0, 1) := by decide +kernel
theorem dX10_spread_119 : decode cX10_spread 119 = .ok (.getfield 19, 3) := by decide +kernel
theorem dX10_spread_122 : decode cX10_spread 122 = .ok (.aload_n 0, 1) := by decide +kernel
theorem dX10_spread_123 : decode cX10_spread 123 = .ok (.getfield 22, 3) := by decide +kernel
theorem dX10_spread_126 : decode cX10_spread 126 = .ok (.iload 4, 2) := by decide +kernel
theorem dX10_spread_128 : decode cX10_spread 128 = .ok (.iaload, 1) := by decide +kernel
theorem dX10_spread_129 : decode cX10_spread 129 = .ok (.iaload, 1) := by decide +kernel
theorem dX10_spread_130 : decode cX10_spread 130 = .ok (.iconst 1, 1) := by decide +kernel
theorem dX10_spread_131 : decode cX10_spread 131 = .ok (.iadd, 1) := by decide +kernel
theorem dX10_spread_132 : decode cX10_spread 132 = .ok (.iastore, 1) := by decide +kernel
theorem dX10_spread_133 : decode cX10_spread 133 = .ok (.aload_n 0, 1) := by decide +kernel
theorem dX10_spread_134 : decode cX10_spread 134 = .ok (.getfield 22, 3) := by decide +kernel
theorem dX10_spread_137 : decode cX10_spread 137 = .ok (.iload_n 3, 1) := by decide +kernel
theorem dX10_spread_138 : decode cX10_spread 138 = .ok (.iload 6, 2) := by decide +kernel
theorem dX10_spread_140 : decode cX10_spread 140 = .ok (.iastore, 1) := by decide +kernel
theorem dX10_spread_141 : decode cX10_spread 141 = .ok (.iinc 3 1, 3) := by decide +kernel
theorem dX10_spread_144 : decode cX10_spread 144 = .ok (.iinc 5 1, 3) := by decide +kernel
theorem dX10_spread_147 : decode cX10_spread 147 = .ok (.goto (-98), 3) := by decide +kernel
theorem dX10_spread_150 : decode cX10_spread 150 = .ok (.iinc 4 1, 3) := by decide +kernel
theorem dX10_spread_153 : decode cX10_spread 153 = .ok (.goto (-113), 3) := by decide +kernel
theorem dX10_spread_156 : decode cX10_spread 156 = .ok (.return_, 1) := by decide +kernel
theorem dX10_distanceOf_0 : decode cX10_distanceOf 0 = .ok (.aload_n 0, 1) := by decide +kernel
theorem dX10_distanceOf_1 : decode cX10_distanceOf 1 = .ok (.iload_n 1, 1) := by decide +kernel
theorem dX10_distanceOf_2 : decode cX10_distanceOf 2 = .ok (.iconst (-1), 1) := by decide +kernel
theorem dX10_distanceOf_3 : decode cX10_distanceOf 3 = .ok (.invokevirtual 60, 3) := by decide +kernel
theorem dX10_distanceOf_6 : decode cX10_distanceOf 6 = .ok (.aload_n 0, 1) := by decide +kernel
theorem dX10_distanceOf_7 : decode cX10_distanceOf 7 = .ok (.getfield 19, 3) := by decide +kernel
theorem dX10_distanceOf_10 : decode cX10_distanceOf 10 = .ok (.iload_n 2, 1) := by decide +kernel
theorem dX10_distanceOf_11 : decode cX10_distanceOf 11 = .ok (.iaload, 1) := by decide +kernel
theorem dX10_distanceOf_12 : decode cX10_distanceOf 12 = .ok (.ireturn, 1) := by decide +kernel
theorem dX10_isSeen_0 : decode cX10_isSeen 0 = .ok (.iload_n 1, 1) := by decide +kernel
theorem dX10_isSeen_1 : decode cX10_isSeen 1 = .ok (.iload_n 2, 1) := by decide +kernel
theorem dX10_isSeen_2 : decode cX10_isSeen 2 = .ok (.if_icmp .ge 7, 3) := by decide +kernel
theorem dX10_isSeen_5 : decode cX10_isSeen 5 = .ok (.iload_n 1, 1) := by decide +kernel
theorem dX10_isSeen_6 : decode cX10_isSeen 6 = .ok (.goto 4, 3) := by decide +kernel
theorem dX10_isSeen_9 : decode cX10_isSeen 9 = .ok (.iload_n 2, 1) := by decide +kernel
theorem dX10_isSeen_10 : decode cX10_isSeen 10 = .ok (.istore_n 3, 1) := by decide +kernel
theorem dX10_isSeen_11 : decode cX10_isSeen 11 = .ok (.iload_n 1, 1) := by decide +kernel
theorem dX10_isSeen_12 : decode cX10_isSeen 12 = .ok (.iload_n 2, 1) := by decide +kernel
theorem dX10_isSeen_13 : decode cX10_isSeen 13 = .ok (.iadd, 1) := by decide +kernel
theorem dX10_isSeen_14 : decode cX10_isSeen 14 = .ok (.iload_n 3, 1) := by decide +kernel
theorem dX10_isSeen_15 : decode cX10_isSeen 15 = .ok (.isub, 1) := by decide +kernel
theorem dX10_isSeen_16 : decode cX10_isSeen 16 = .ok (.istore 4, 2) := by decide +kernel
theorem dX10_isSeen_18 : decode cX10_isSeen 18 = .ok (.iload_n 3, 1) := by decide +kernel
theorem dX10_isSeen_19 : decode cX10_isSeen 19 = .ok (.bipush 12, 2) := by decide +kernel
theorem dX10_isSeen_21 : decode cX10_isSeen 21 = .ok (.irem, 1) := by decide +kernel
theorem dX10_isSeen_22 : decode cX10_isSeen 22 = .ok (.istore 5, 2) := by decide +kernel
theorem dX10_isSeen_24 : decode cX10_isSeen 24 = .ok (.iload_n 3, 1) := by decide +kernel
theorem dX10_isSeen_25 : decode cX10_isSeen 25 = .ok (.bipush 12, 2) := by decide +kernel
theorem dX10_isSeen_27 : decode cX10_isSeen 27 = .ok (.idiv, 1) := by decide +kernel
theorem dX10_isSeen_28 : decode cX10_isSeen 28 = .ok (.istore 6, 2) := by decide +kernel
theorem dX10_isSeen_30 : decode cX10_isSeen 30 = .ok (.iload 4, 2) := by decide +kernel
theorem dX10_isSeen_32 : decode cX10_isSeen 32 = .ok (.bipush 12, 2) := by decide +kernel
theorem dX10_isSeen_34 : decode cX10_isSeen 34 = .ok (.irem, 1) := by decide +kernel
theorem dX10_isSeen_35 : decode cX10_isSeen 35 = .ok (.iload 5, 2) := by decide +kernel
theorem dX10_isSeen_37 : decode cX10_isSeen 37 = .ok (.isub, 1) := by decide +kernel
theorem dX10_isSeen_38 : decode cX10_isSeen 38 = .ok (.istore 7, 2) := by decide +kernel
theorem dX10_isSeen_40 : decode cX10_isSeen 40 = .ok (.iload 4, 2) := by decide +kernel
theorem dX10_isSeen_42 : decode cX10_isSeen 42 = .ok (.bipush 12, 2) := by decide +kernel
theorem dX10_isSeen_44 : decode cX10_isSeen 44 = .ok (.idiv, 1) := by decide +kernel
theorem dX10_isSeen_45 : decode cX10_isSeen 45 = .ok (.iload 6, 2) := by decide +kernel
theorem dX10_isSeen_47 : decode cX10_isSeen 47 = .ok (.isub, 1) := by decide +kernel
theorem dX10_isSeen_48 : decode cX10_isSeen 48 = .ok (.istore 8, 2) := by decide +kernel
theorem dX10_isSeen_50 : decode cX10_isSeen 50 = .ok (.iload 7, 2) := by decide +kernel
theorem dX10_isSeen_52 : decode cX10_isSeen 52 = .ok (.invokestatic 46, 3) := by decide +kernel
theorem dX10_isSeen_55 : decode cX10_isSeen 55 = .ok (.iload 8, 2) := by decide +kernel
theorem dX10_isSeen_57 : decode cX10_isSeen 57 = .ok (.invokestatic 46, 3) := by decide +kernel
theorem dX10_isSeen_60 : decode cX10_isSeen 60 = .ok (.if_icmp .le 11, 3) := by decide +kernel
theorem dX10_isSeen_63 : decode cX10_isSeen 63 = .ok (.iload 7, 2) := by decide +kernel
theorem dX10_isSeen_65 : decode cX10_isSeen 65 = .ok (.invokestatic 46, 3) := by decide +kernel
theorem dX10_isSeen_68 : decode cX10_isSeen 68 = .ok (.goto 8, 3) := by decide +kernel
theorem dX10_isSeen_71 : decode cX10_isSeen 71 = .ok (.iload 8, 2) := by decide +kernel
theorem dX10_isSeen_73 : decode cX10_isSeen 73 = .ok (.invokestatic 46, 3) := by decide +kernel
theorem dX10_isSeen_76 : decode cX10_isSeen 76 = .ok (.istore 9, 2) := by decide +kernel
theorem dX10_isSeen_78 : decode cX10_isSeen 78 = .ok (.iconst 1, 1) := by decide +kernel
theorem dX10_isSeen_79 : decode cX10_isSeen 79 = .ok (.istore 10, 2) := by decide +kernel
theorem dX10_isSeen_81 : decode cX10_isSeen 81 = .ok (.iconst 1, 1) := by decide +kernel
theorem dX10_isSeen_82 : decode cX10_isSeen 82 = .ok (.istore 11, 2) := by decide +kernel
theorem dX10_isSeen_84 : decode cX10_isSeen 84 = .ok (.iload 11, 2) := by decide +kernel
theorem dX10_isSeen_86 : decode cX10_isSeen 86 = .ok (.iload 9, 2) := by decide +kernel
theorem dX10_isSeen_88 : decode cX10_isSeen 88 = .ok (.if_icmp .ge 113, 3) := by decide +kernel
theorem dX10_isSeen_91 : decode cX10_isSeen 91 = .ok (.iload 10, 2) := by decide +kernel
theorem dX10_isSeen_93 : decode cX10_isSeen 93 = .ok (.ifCond .eq 108, 3) := by decide +kernel
theorem dX10_isSeen_96 : decode cX10_isSeen 96 = .ok (.iconst 2, 1) := by decide +kernel
theorem dX10_isSeen_97 : decode cX10_isSeen 97 = .ok (.iload 9, 2) := by decide +kernel
theorem dX10_isSeen_99 : decode cX10_isSeen 99 = .ok (.iload 5, 2) := by decide +kernel
theorem dX10_isSeen_101 : decode cX10_isSeen 101 = .ok (.imul, 1) := by decide +kernel
theorem dX10_isSeen_102 : decode cX10_isSeen 102 = .ok (.iload 11, 2) := by decide +kernel
theorem dX10_isSeen_104 : decode cX10_isSeen 104 = .ok (.iload 7, 2) := by decide +kernel
theorem dX10_isSeen_106 : decode cX10_isSeen 106 = .ok (.imul, 1) := by decide +kernel
theorem dX10_isSeen_107 : decode cX10_isSeen 107 = .ok (.iadd, 1) := by decide +kernel
theorem dX10_isSeen_108 : decode cX10_isSeen 108 = .ok (.imul, 1) := by decide +kernel
theorem dX10_isSeen_109 : decode cX10_isSeen 109 = .ok (.iload 9, 2) := by decide +kernel
theorem dX10_isSeen_111 : decode cX10_isSeen 111 = .ok (.iadd, 1) := by decide +kernel
theorem dX10_isSeen_112 : decode cX10_isSeen 112 = .ok (.iconst 2, 1) := by decide +kernel
theorem dX10_isSeen_113 : decode cX10_isSeen 113 = .ok (.iload 9, 2) := by decide +kernel
theorem dX10_isSeen_115 : decode cX10_isSeen 115 = .ok (.imul, 1) := by decide +kernel
theorem dX10_isSeen_116 : decode cX10_isSeen 116 = .ok (.idiv, 1) := by decide +kernel
theorem dX10_isSeen_117 : decode cX10_isSeen 117 = .ok (.istore 12, 2) := by decide +kernel
theorem dX10_isSeen_119 : decode cX10_isSeen 119 = .ok (.iconst 2, 1) := by decide +kernel
theorem dX10_isSeen_120 : decode cX10_isSeen 120 = .ok (.iload 9, 2) := by decide +kernel
theorem dX10_isSeen_122 : decode cX10_isSeen 122 = .ok (.iload 6, 2) := by decide +kernel
theorem dX10_isSeen_124 : decode cX10_isSeen 124 = .ok (.imul, 1) := by decide +kernel
theorem dX10_isSeen_125 : decode cX10_isSeen 125 = .ok (.iload 11, 2) := by decide +kernel
theorem dX10_isSeen_127 : decode cX10_isSeen 127 = .ok (.iload 8, 2) := by decide +kernel
theorem dX10_isSeen_129 : decode cX10_isSeen 129 = .ok (.imul, 1) := by decide +kernel
theorem dX10_isSeen_130 : decode cX10_isSeen 130 = .ok (.iadd, 1) := by decide +kernel
theorem dX10_isSeen_131 : decode cX10_isSeen 131 = .ok (.imul, 1) := by decide +kernel
theorem dX10_isSeen_132 : decode cX10_isSeen 132 = .ok (.iload 9, 2) := by decide +kernel
theorem dX10_isSeen_134 : decode cX10_isSeen 134 = .ok (.iadd, 1) := by decide +kernel
theorem dX10_isSeen_135 : decode cX10_isSeen 135 = .ok (.iconst 2, 1) := by decide +kernel
theorem dX10_isSeen_136 : decode cX10_isSeen 136 = .ok (.iload 9, 2) := by decide +kernel
theorem dX10_isSeen_138 : decode cX10_isSeen 138 = .ok (.imul, 1) := by decide +kernel
theorem dX10_isSeen_139 : decode cX10_isSeen 139 = .ok (.idiv, 1) := by decide +kernel
theorem dX10_isSeen_140 : decode cX10_isSeen 140 = .ok (.istore 13, 2) := by decide +kernel
theorem dX10_isSeen_142 : decode cX10_isSeen 142 = .ok (.aload_n 0, 1) := by decide +kernel
theorem dX10_isSeen_143 : decode cX10_isSeen 143 = .ok (.getfield 7, 3) := by decide +kernel
theorem dX10_isSeen_146 : decode cX10_isSeen 146 = .ok (.bipush 12, 2) := by decide +kernel
theorem dX10_isSeen_148 : decode cX10_isSeen 148 = .ok (.iload 13, 2) := by decide +kernel
theorem dX10_isSeen_150 : decode cX10_isSeen 150 = .ok (.imul, 1) := by decide +kernel
theorem dX10_isSeen_151 : decode cX10_isSeen 151 = .ok (.iload 12, 2) := by decide +kernel
theorem dX10_isSeen_153 : decode cX10_isSeen 153 = .ok (.iadd, 1) := by decide +kernel
theorem dX10_isSeen_154 : decode cX10_isSeen 154 = .ok (.iaload, 1) := by decide +kernel
theorem dX10_isSeen_155 : decode cX10_isSeen 155 = .ok (.iload 9, 2) := by decide +kernel
theorem dX10_isSeen_157 : decode cX10_isSeen 157 = .ok (.imul, 1) := by decide +kernel
theorem dX10_isSeen_158 : decode cX10_isSeen 158 = .ok (.aload_n 0, 1) := by decide +kernel
theorem dX10_isSeen_159 : decode cX10_isSeen 159 = .ok (.getfield 7, 3) := by decide +kernel
theorem dX10_isSeen_162 : decode cX10_isSeen 162 = .ok (.iload_n 3, 1) := by decide +kernel
theorem dX10_isSeen_163 : decode cX10_isSeen 163 = .ok (.iaload, 1) := by decide +kernel
theorem dX10_isSeen_164 : decode cX10_isSeen 164 = .ok (.iconst 1, 1) := by decide +kernel
theorem dX10_isSeen_165 : decode cX10_isSeen 165 = .ok (.iadd, 1) := by decide +kernel
theorem dX10_isSeen_166 : decode cX10_isSeen 166 = .ok (.iload 9, 2) := by decide +kernel
theorem dX10_isSeen_168 : decode cX10_isSeen 168 = .ok (.iload 11, 2) := by decide +kernel
theorem dX10_isSeen_170 : decode cX10_isSeen 170 = .ok (.isub, 1) := by decide +kernel
theorem dX10_isSeen_171 : decode cX10_isSeen 171 = .ok (.imul, 1) := by decide +kernel
theorem dX10_isSeen_172 : decode cX10_isSeen 172 = .ok (.aload_n 0, 1) := by decide +kernel
theorem dX10_isSeen_173 : decode cX10_isSeen 173 = .ok (.getfield 7, 3) := by decide +kernel
theorem dX10_isSeen_176 : decode cX10_isSeen 176 = .ok (.iload 4, 2) := by decide +kernel
theorem dX10_isSeen_178 : decode cX10_isSeen 178 = .ok (.iaload, 1) := by decide +kernel
theorem dX10_isSeen_179 : decode cX10_isSeen 179 = .ok (.iconst 1, 1) := by decide +kernel
theorem dX10_isSeen_180 : decode cX10_isSeen 180 = .ok (.iadd, 1) := by decide +kernel
theorem dX10_isSeen_181 : decode cX10_isSeen 181 = .ok (.iload 11, 2) := by decide +kernel
theorem dX10_isSeen_183 : decode cX10_isSeen 183 = .ok (.imul, 1) := by decide +kernel
theorem dX10_isSeen_184 : decode cX10_isSeen 184 = .ok (.iadd, 1) := by decide +kernel
theorem dX10_isSeen_185 : decode cX10_isSeen 185 = .ok (.if_icmp .gt 7, 3) := by decide +kernel
theorem dX10_isSeen_188 : decode cX10_isSeen 188 = .ok (.iconst 1, 1) := by decide +kernel
theorem dX10_isSeen_189 : decode cX10_isSeen 189 = .ok (.goto 4, 3) := by decide +kernel
theorem dX10_isSeen_192 : decode cX10_isSeen 192 = .ok (.iconst 0, 1) := by decide +kernel
theorem dX10_isSeen_193 : decode cX10_isSeen 193 = .ok (.istore 10, 2) := by decide +kernel
theorem dX10_isSeen_195 : decode cX10_isSeen 195 = .ok (.iinc 11 1, 3) := by decide +kernel
theorem dX10_isSeen_198 : decode cX10_isSeen 198 = .ok (.goto (-114), 3) := by decide +kernel
theorem dX10_isSeen_201 : decode cX10_isSeen 201 = .ok (.iload 10, 2) := by decide +kernel
theorem dX10_isSeen_203 : decode cX10_isSeen 203 = .ok (.ireturn, 1) := by decide +kernel
theorem dX10_seenFrom_0 : decode cX10_seenFrom 0 = .ok (.iconst 0, 1) := by decide +kernel
theorem dX10_seenFrom_1 : decode cX10_seenFrom 1 = .ok (.istore_n 2, 1) := by decide +kernel
theorem dX10_seenFrom_2 : decode cX10_seenFrom 2 = .ok (.iconst 0, 1) := by decide +kernel
theorem dX10_seenFrom_3 : decode cX10_seenFrom 3 = .ok (.istore_n 3, 1) := by decide +kernel
theorem dX10_seenFrom_4 : decode cX10_seenFrom 4 = .ok (.iload_n 3, 1) := by decide +kernel
theorem dX10_seenFrom_5 : decode cX10_seenFrom 5 = .ok (.bipush 96, 2) := by decide +kernel
theorem dX10_seenFrom_7 : decode cX10_seenFrom 7 = .ok (.if_icmp .ge 26, 3) := by decide +kernel
theorem dX10_seenFrom_10 : decode cX10_seenFrom 10 = .ok (.iload_n 2, 1) := by decide +kernel
theorem dX10_seenFrom_11 : decode cX10_seenFrom 11 = .ok (.aload_n 0, 1) := by decide +kernel
theorem dX10_seenFrom_12 : decode cX10_seenFrom 12 = .ok (.iload_n 1, 1) := by decide +kernel
theorem dX10_seenFrom_13 : decode cX10_seenFrom 13 = .ok (.iload_n 3, 1) := by decide +kernel
theorem dX10_seenFrom_14 : decode cX10_seenFrom 14 = .ok (.invokevirtual 64, 3) := by decide +kernel
theorem dX10_seenFrom_17 : decode cX10_seenFrom 17 = .ok (.ifCond .eq 7, 3) := by decide +kernel
theorem dX10_seenFrom_20 : decode cX10_seenFrom 20 = .ok (.iconst 1, 1) := by decide +kernel
theorem dX10_seenFrom_21 : decode cX10_seenFrom 21 = .ok (.goto 4, 3) := by decide +kernel
theorem dX10_seenFrom_24 : decode cX10_seenFrom 24 = .ok (.iconst 0, 1) := by decide +kernel
theorem dX10_seenFrom_25 : decode cX10_seenFrom 25 = .ok (.iadd, 1) := by decide +kernel
theorem dX10_seenFrom_26 : decode cX10_seenFrom 26 = .ok (.istore_n 2, 1) := by decide +kernel
theorem dX10_seenFrom_27 : decode cX10_seenFrom 27 = .ok (.iinc 3 1, 3) := by decide +kernel
theorem dX10_seenFrom_30 : decode cX10_seenFrom 30 = .ok (.goto (-26), 3) := by decide +kernel
theorem dX10_seenFrom_33 : decode cX10_seenFrom 33 = .ok (.iload_n 2, 1) := by decide +kernel
theorem dX10_seenFrom_34 : decode cX10_seenFrom 34 = .ok (.ireturn, 1) := by decide +kernel
theorem dX10_save_0 : decode cX10_save 0 = .ok (.aload_n 0, 1) := by decide +kernel
theorem dX10_save_1 : decode cX10_save 1 = .ok (.getfield 68, 3) := by decide +kernel
theorem dX10_save_4 : decode cX10_save 4 = .ok (.iconst 5, 1) := by decide +kernel
theorem dX10_save_5 : decode cX10_save 5 = .ok (.if_icmp .ne 46, 3) := by decide +kernel
theorem dX10_save_8 : decode cX10_save 8 = .ok (.sipush 321, 3) := by decide +kernel
theorem dX10_save_11 : decode cX10_save 11 = .ok (.istore_n 1, 1) := by decide +kernel
theorem dX10_save_12 : decode cX10_save 12 = .ok (.iload_n 1, 1) := by decide +kernel
theorem dX10_save_13 : decode cX10_save 13 = .ok (.sipush 1605, 3) := by decide +kernel
theorem dX10_save_16 : decode cX10_save 16 = .ok (.if_icmp .ge 25, 3) := by decide +kernel
theorem dX10_save_19 : decode cX10_save 19 = .ok (.aload_n 0, 1) := by decide +kernel
theorem dX10_save_20 : decode cX10_save 20 = .ok (.getfield 13, 3) := by decide +kernel
theorem dX10_save_23 : decode cX10_save 23 = .ok (.iload_n 1, 1) := by decide +kernel
theorem dX10_save_24 : decode cX10_save 24 = .ok (.sipush 321, 3) := by decide +kernel
theorem dX10_save_27 : decode cX10_save 27 = .ok (.isub, 1) := by decide +kernel
theorem dX10_save_28 : decode cX10_save 28 = .ok (.aload_n 0, 1) := by decide +kernel
theorem dX10_save_29 : decode cX10_save 29 = .ok (.getfield 13, 3) := by decide +kernel
theorem dX10_save_32 : decode cX10_save 32 = .ok (.iload_n 1, 1) := by decide +kernel
theorem dX10_save_33 : decode cX10_save 33 = .ok (.iaload, 1) := by decide +kernel
theorem dX10_save_34 : decode cX10_save 34 = .ok (.iastore, 1) := by decide +kernel
theorem dX10_save_35 : decode cX10_save 35 = .ok (.iinc 1 1, 3) := by decide +kernel
theorem dX10_save_38 : decode cX10_save 38 = .ok (.goto (-26), 3) := by decide +kernel
theorem dX10_save_41 : decode cX10_save 41 = .ok (.aload_n 0, 1) := by decide +kernel
theorem dX10_save_42 : decode cX10_save 42 = .ok (.dup, 1) := by decide +kernel
theorem dX10_save_43 : decode cX10_save 43 = .ok (.getfield 68, 3) := by decide +kernel
theorem dX10_save_46 : decode cX10_save 46 = .ok (.iconst 1, 1) := by decide +kernel
theorem dX10_save_47 : decode cX10_save 47 = .ok (.isub, 1) := by decide +kernel
theorem dX10_save_48 : decode cX10_save 48 = .ok (.putfield 68, 3) := by decide +kernel
theorem dX10_save_51 : decode cX10_save 51 = .ok (.iconst 0, 1) := by decide +kernel
theorem dX10_save_52 : decode cX10_save 52 = .ok (.istore_n 1, 1) := by decide +kernel
theorem dX10_save_53 : decode cX10_save 53 = .ok (.iload_n 1, 1) := by decide +kernel
theorem dX10_save_54 : decode cX10_save 54 = .ok (.sipush 321, 3) := by decide +kernel
theorem dX10_save_57 : decode cX10_save 57 = .ok (.if_icmp .ge 30, 3) := by decide +kernel
theorem dX10_save_60 : decode cX10_save 60 = .ok (.aload_n 0, 1) := by decide +kernel
theorem dX10_save_61 : decode cX10_save 61 = .ok (.getfield 13, 3) := by decide +kernel
theorem dX10_save_64 : decode cX10_save 64 = .ok (.sipush 321, 3) := by decide +kernel
theorem dX10_save_67 : decode cX10_save 67 = .ok (.aload_n 0, 1) := by decide +kernel
theorem dX10_save_68 : decode cX10_save 68 = .ok (.getfield 68, 3) := by decide +kernel
theorem dX10_save_71 : decode cX10_save 71 = .ok (.imul, 1) := by decide +kernel
theorem dX10_save_72 : decode cX10_save 72 = .ok (.iload_n 1, 1) := by decide +kernel
theorem dX10_save_73 : decode cX10_save 73 = .ok (.iadd, 1) := by decide +kernel
theorem dX10_save_74 : decode cX10_save 74 = .ok (.aload_n 0, 1) := by decide +kernel
theorem dX10_save_75 : decode cX10_save 75 = .ok (.getfield 7, 3) := by decide +kernel

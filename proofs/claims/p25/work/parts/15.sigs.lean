/-! ===== the methods by their contracts' sides ===== -/
theorem nc_X9 : (RX9 : String) ≠ "java/lang/invoke/MethodHandle" ∧ (RX9 : String) ≠ "java/lang/invoke/VarHandle" := ⟨by decide, by decide⟩
theorem nc_X0 : (RX0 : String) ≠ "java/lang/invoke/MethodHandle" ∧ (RX0 : String) ≠ "java/lang/invoke/VarHandle" := ⟨by decide, by decide⟩
theorem nc_X1 : (RX1 : String) ≠ "java/lang/invoke/MethodHandle" ∧ (RX1 : String) ≠ "java/lang/invoke/VarHandle" := ⟨by decide, by decide⟩
theorem nc_X2 : (RX2 : String) ≠ "java/lang/invoke/MethodHandle" ∧ (RX2 : String) ≠ "java/lang/invoke/VarHandle" := ⟨by decide, by decide⟩
theorem nc_X3 : (RX3 : String) ≠ "java/lang/invoke/MethodHandle" ∧ (RX3 : String) ≠ "java/lang/invoke/VarHandle" := ⟨by decide, by decide⟩
theorem nc_X4 : (RX4 : String) ≠ "java/lang/invoke/MethodHandle" ∧ (RX4 : String) ≠ "java/lang/invoke/VarHandle" := ⟨by decide, by decide⟩
theorem nc_X5 : (RX5 : String) ≠ "java/lang/invoke/MethodHandle" ∧ (RX5 : String) ≠ "java/lang/invoke/VarHandle" := ⟨by decide, by decide⟩
theorem nc_X6 : (RX6 : String) ≠ "java/lang/invoke/MethodHandle" ∧ (RX6 : String) ≠ "java/lang/invoke/VarHandle" := ⟨by decide, by decide⟩
theorem nc_X7 : (RX7 : String) ≠ "java/lang/invoke/MethodHandle" ∧ (RX7 : String) ≠ "java/lang/invoke/VarHandle" := ⟨by decide, by decide⟩
theorem nc_X8 : (RX8 : String) ≠ "java/lang/invoke/MethodHandle" ∧ (RX8 : String) ≠ "java/lang/invoke/VarHandle" := ⟨by decide, by decide⟩
theorem nc_L : (RL : String) ≠ "java/lang/invoke/MethodHandle" ∧ (RL : String) ≠ "java/lang/invoke/VarHandle" := ⟨by decide, by decide⟩
theorem nc_J7 : (RJ7 : String) ≠ "java/lang/invoke/MethodHandle" ∧ (RJ7 : String) ≠ "java/lang/invoke/VarHandle" := ⟨by decide, by decide⟩
def sX4_init : amS := (yX4_init, cX4_init, 1, none, [], 1, 20, 3, 288)
theorem np_X4_init : (parseMethodDescriptor (sy sX4_init).desc).map (fun d => d.parameters.length + 1) = some 1 := by decide +kernel
def sX0_init : amS := (yX0_init, cX0_init, 1, none, [], 2, 40, 5, 387)
theorem np_X0_init : (parseMethodDescriptor (sy sX0_init).desc).map (fun d => d.parameters.length + 1) = some 1 := by decide +kernel
def sJ7_fill_53178 : amS := (yJ7_fill_53178, cJ7_fill_53178, 4, none, [], 0, 0, 0, 0)
theorem np_J7_fill_53178 : (parseMethodDescriptor (sy sJ7_fill_53178).desc).map (fun d => d.parameters.length) = some 2 := by decide +kernel
def sX9_neighbour : amS := (yX9_neighbour, cX9_neighbour, 2, (some .int), [], 0, 0, 0, 0)
theorem np_X9_neighbour : (parseMethodDescriptor (sy sX9_neighbour).desc).map (fun d => d.parameters.length) = some 2 := by decide +kernel
def sX4_isOpen : amS := (yX4_isOpen, cX4_isOpen, 2, (some .boolean), [], 0, 0, 0, 0)
theorem np_X4_isOpen : (parseMethodDescriptor (sy sX4_isOpen).desc).map (fun d => d.parameters.length + 1) = some 2 := by decide +kernel
def sX5_canStep : amS := (yX5_canStep, cX5_canStep, 4, (some .boolean), [], 0, 0, 0, 0)
theorem np_X5_canStep : (parseMethodDescriptor (sy sX5_canStep).desc).map (fun d => d.parameters.length + 1) = some 3 := by decide +kernel
def sX4_spread : amS := (yX4_spread, cX4_spread, 9, none, [], 1, 23, 0, 0)
theorem np_X4_spread : (parseMethodDescriptor (sy sX4_spread).desc).map (fun d => d.parameters.length + 1) = some 4 := by decide +kernel
def sX0_stepsBetween : amS := (yX0_stepsBetween, cX0_stepsBetween, 4, (some .int), [], 2, 51, 0, 0)
theorem np_X0_stepsBetween : (parseMethodDescriptor (sy sX0_stepsBetween).desc).map (fun d => d.parameters.length + 1) = some 4 := by decide +kernel
def sX5_between : amS := (yX5_between, cX5_between, 4, (some .int), [], 0, 0, 0, 0)
theorem np_X5_between : (parseMethodDescriptor (sy sX5_between).desc).map (fun d => d.parameters.length) = some 4 := by decide +kernel
def sX5_inSight : amS := (yX5_inSight, cX5_inSight, 10, (some .boolean), [], 1, 40, 0, 0)
theorem np_X5_inSight : (parseMethodDescriptor (sy sX5_inSight).desc).map (fun d => d.parameters.length + 1) = some 3 := by decide +kernel
def sX0_ridingTurns : amS := (yX0_ridingTurns, cX0_ridingTurns, 1, (some .int), [], 1, 40, 0, 0)
theorem np_X0_ridingTurns : (parseMethodDescriptor (sy sX0_ridingTurns).desc).map (fun d => d.parameters.length) = some 1 := by decide +kernel
def sX0_turnsTo : amS := (yX0_turnsTo, cX0_turnsTo, 5, (some .int), [], 3, 74, 0, 0)
theorem np_X0_turnsTo : (parseMethodDescriptor (sy sX0_turnsTo).desc).map (fun d => d.parameters.length + 1) = some 3 := by decide +kernel
def sX0_refusal : amS := (yX0_refusal, cX0_refusal, 3, (some .int), [], 4, 98, 0, 0)
theorem np_X0_refusal : (parseMethodDescriptor (sy sX0_refusal).desc).map (fun d => d.parameters.length + 1) = some 3 := by decide +kernel
def sX5_init : amS := (yX5_init, cX5_init, 1, none, [], 1, 20, 1, 96)
theorem np_X5_init : (parseMethodDescriptor (sy sX5_init).desc).map (fun d => d.parameters.length + 1) = some 1 := by decide +kernel
def sX7_init : amS := (yX7_init, cX7_init, 1, none, [], 1, 20, 0, 0)
theorem np_X7_init : (parseMethodDescriptor (sy sX7_init).desc).map (fun d => d.parameters.length + 1) = some 1 := by decide +kernel
def sX3_init : amS := (yX3_init, cX3_init, 1, none, [], 1, 20, 0, 0)
theorem np_X3_init : (parseMethodDescriptor (sy sX3_init).desc).map (fun d => d.parameters.length + 1) = some 1 := by decide +kernel
def sX8_init : amS := (yX8_init, cX8_init, 2, none, [], 2, 40, 48, 359)
theorem np_X8_init : (parseMethodDescriptor (sy sX8_init).desc).map (fun d => d.parameters.length + 1) = some 1 := by decide +kernel
def sX1_init : amS := (yX1_init, cX1_init, 2, none, [], 3, 61, 246, 1850)
theorem np_X1_init : (parseMethodDescriptor (sy sX1_init).desc).map (fun d => d.parameters.length + 1) = some 1 := by decide +kernel
def sX1_dropOldest : amS := (yX1_dropOldest, cX1_dropOldest, 3, none, [], 0, 0, 0, 0)
theorem np_X1_dropOldest : (parseMethodDescriptor (sy sX1_dropOldest).desc).map (fun d => d.parameters.length + 1) = some 1 := by decide +kernel
def sX5_copyFrom : amS := (yX5_copyFrom, cX5_copyFrom, 2, none, [], 1, 40, 0, 0)
theorem np_X5_copyFrom : (parseMethodDescriptor (sy sX5_copyFrom).desc).map (fun d => d.parameters.length + 1) = some 2 := by decide +kernel
def sX7_copyFrom : amS := (yX7_copyFrom, cX7_copyFrom, 2, none, [], 0, 0, 0, 0)
theorem np_X7_copyFrom : (parseMethodDescriptor (sy sX7_copyFrom).desc).map (fun d => d.parameters.length + 1) = some 2 := by decide +kernel
def sX3_write : amS := (yX3_write, cX3_write, 5, none, [], 0, 0, 0, 0)
theorem np_X3_write : (parseMethodDescriptor (sy sX3_write).desc).map (fun d => d.parameters.length + 1) = some 5 := by decide +kernel
def sX3_copyFrom : amS := (yX3_copyFrom, cX3_copyFrom, 2, none, [], 1, 24, 0, 0)
theorem np_X3_copyFrom : (parseMethodDescriptor (sy sX3_copyFrom).desc).map (fun d => d.parameters.length + 1) = some 2 := by decide +kernel
def sX8_copyFrom : amS := (yX8_copyFrom, cX8_copyFrom, 3, none, [], 2, 61, 0, 0)
theorem np_X8_copyFrom : (parseMethodDescriptor (sy sX8_copyFrom).desc).map (fun d => d.parameters.length + 1) = some 2 := by decide +kernel
def sX1_save : amS := (yX1_save, cX1_save, 2, none, [], 3, 83, 0, 0)
theorem np_X1_save : (parseMethodDescriptor (sy sX1_save).desc).map (fun d => d.parameters.length + 1) = some 2 := by decide +kernel
def sX2_init : amS := (yX2_init, cX2_init, 1, none, [], 2, 40, 4, 291)
theorem np_X2_init : (parseMethodDescriptor (sy sX2_init).desc).map (fun d => d.parameters.length + 1) = some 1 := by decide +kernel
def sX8_dropFirstOrders : amS := (yX8_dropFirstOrders, cX8_dropFirstOrders, 3, none, [], 2, 45, 0, 0)
theorem np_X8_dropFirstOrders : (parseMethodDescriptor (sy sX8_dropFirstOrders).desc).map (fun d => d.parameters.length + 1) = some 2 := by decide +kernel
def sX2_bringOrders : amS := (yX2_bringOrders, cX2_bringOrders, 4, none, [], 3, 67, 0, 0)
theorem np_X2_bringOrders : (parseMethodDescriptor (sy sX2_bringOrders).desc).map (fun d => d.parameters.length) = some 1 := by decide +kernel
def sX4_openAll : amS := (yX4_openAll, cX4_openAll, 1, none, [], 1, 23, 0, 0)
theorem np_X4_openAll : (parseMethodDescriptor (sy sX4_openAll).desc).map (fun d => d.parameters.length + 1) = some 1 := by decide +kernel
def sX4_freeStepNearer : amS := (yX4_freeStepNearer, cX4_freeStepNearer, 5, (some .int), [], 1, 23, 0, 0)
theorem np_X4_freeStepNearer : (parseMethodDescriptor (sy sX4_freeStepNearer).desc).map (fun d => d.parameters.length + 1) = some 3 := by decide +kernel
def sX2_stepToGoal : amS := (yX2_stepToGoal, cX2_stepToGoal, 5, none, [], 2, 51, 0, 0)
theorem np_X2_stepToGoal : (parseMethodDescriptor (sy sX2_stepToGoal).desc).map (fun d => d.parameters.length + 1) = some 3 := by decide +kernel
def sX8_troopIn : amS := (yX8_troopIn, cX8_troopIn, 3, (some .int), [], 0, 0, 0, 0)
theorem np_X8_troopIn : (parseMethodDescriptor (sy sX8_troopIn).desc).map (fun d => d.parameters.length + 1) = some 2 := by decide +kernel
def sX2_stepBack : amS := (yX2_stepBack, cX2_stepBack, 3, none, [], 1, 23, 0, 0)
theorem np_X2_stepBack : (parseMethodDescriptor (sy sX2_stepBack).desc).map (fun d => d.parameters.length) = some 2 := by decide +kernel
def sX2_march : amS := (yX2_march, cX2_march, 4, none, [], 3, 75, 0, 0)
theorem np_X2_march : (parseMethodDescriptor (sy sX2_march).desc).map (fun d => d.parameters.length + 1) = some 2 := by decide +kernel
def sX7_isEnemyOf : amS := (yX7_isEnemyOf, cX7_isEnemyOf, 2, (some .boolean), [], 0, 0, 0, 0)
theorem np_X7_isEnemyOf : (parseMethodDescriptor (sy sX7_isEnemyOf).desc).map (fun d => d.parameters.length + 1) = some 2 := by decide +kernel
def sX2_lossOf : amS := (yX2_lossOf, cX2_lossOf, 6, (some .int), [], 1, 40, 0, 0)
theorem np_X2_lossOf : (parseMethodDescriptor (sy sX2_lossOf).desc).map (fun d => d.parameters.length) = some 2 := by decide +kernel
def sX2_fight : amS := (yX2_fight, cX2_fight, 3, none, [], 2, 65, 0, 0)
theorem np_X2_fight : (parseMethodDescriptor (sy sX2_fight).desc).map (fun d => d.parameters.length) = some 1 := by decide +kernel
def sX2_seesEnemy : amS := (yX2_seesEnemy, cX2_seesEnemy, 4, (some .boolean), [], 2, 69, 0, 0)
theorem np_X2_seesEnemy : (parseMethodDescriptor (sy sX2_seesEnemy).desc).map (fun d => d.parameters.length) = some 2 := by decide +kernel
def sX2_steadyOrRout : amS := (yX2_steadyOrRout, cX2_steadyOrRout, 2, none, [], 3, 92, 0, 0)
theorem np_X2_steadyOrRout : (parseMethodDescriptor (sy sX2_steadyOrRout).desc).map (fun d => d.parameters.length) = some 2 := by decide +kernel
def sX2_play : amS := (yX2_play, cX2_play, 5, none, [], 4, 113, 0, 0)
theorem np_X2_play : (parseMethodDescriptor (sy sX2_play).desc).map (fun d => d.parameters.length + 1) = some 3 := by decide +kernel
def sX3_figure : amS := (yX3_figure, cX3_figure, 2, (some .int), [], 0, 0, 0, 0)
theorem np_X3_figure : (parseMethodDescriptor (sy sX3_figure).desc).map (fun d => d.parameters.length + 1) = some 2 := by decide +kernel
def sX5_level : amS := (yX5_level, cX5_level, 7, (some .int), [], 0, 0, 0, 0)
theorem np_X5_level : (parseMethodDescriptor (sy sX5_level).desc).map (fun d => d.parameters.length + 1) = some 4 := by decide +kernel
def sX5_exits : amS := (yX5_exits, cX5_exits, 5, (some .int), [], 1, 23, 0, 0)
theorem np_X5_exits : (parseMethodDescriptor (sy sX5_exits).desc).map (fun d => d.parameters.length + 1) = some 2 := by decide +kernel
def sX5_cellsInSight : amS := (yX5_cellsInSight, cX5_cellsInSight, 4, (some .int), [], 2, 69, 0, 0)
theorem np_X5_cellsInSight : (parseMethodDescriptor (sy sX5_cellsInSight).desc).map (fun d => d.parameters.length + 1) = some 2 := by decide +kernel
def sX6_init : amS := (yX6_init, cX6_init, 1, none, [], 1, 20, 3, 80)
theorem np_X6_init : (parseMethodDescriptor (sy sX6_init).desc).map (fun d => d.parameters.length + 1) = some 1 := by decide +kernel
def sX7_muster : amS := (yX7_muster, cX7_muster, 4, none, [], 0, 0, 0, 0)
theorem np_X7_muster : (parseMethodDescriptor (sy sX7_muster).desc).map (fun d => d.parameters.length + 1) = some 4 := by decide +kernel
def sX8_recruit : amS := (yX8_recruit, cX8_recruit, 5, (some .int), [], 1, 23, 0, 0)
theorem np_X8_recruit : (parseMethodDescriptor (sy sX8_recruit).desc).map (fun d => d.parameters.length + 1) = some 4 := by decide +kernel
def sX8_enqueue : amS := (yX8_enqueue, cX8_enqueue, 5, none, [], 2, 45, 0, 0)
theorem np_X8_enqueue : (parseMethodDescriptor (sy sX8_enqueue).desc).map (fun d => d.parameters.length + 1) = some 4 := by decide +kernel
def sX8_cellFigure : amS := (yX8_cellFigure, cX8_cellFigure, 3, (some .int), [], 3, 92, 0, 0)
theorem np_X8_cellFigure : (parseMethodDescriptor (sy sX8_cellFigure).desc).map (fun d => d.parameters.length + 1) = some 3 := by decide +kernel
def sX8_ordersFor : amS := (yX8_ordersFor, cX8_ordersFor, 4, (some .int), [], 0, 0, 0, 0)
theorem np_X8_ordersFor : (parseMethodDescriptor (sy sX8_ordersFor).desc).map (fun d => d.parameters.length + 1) = some 2 := by decide +kernel
def sX8_troopFigure : amS := (yX8_troopFigure, cX8_troopFigure, 4, (some .int), [], 1, 23, 0, 0)
theorem np_X8_troopFigure : (parseMethodDescriptor (sy sX8_troopFigure).desc).map (fun d => d.parameters.length + 1) = some 3 := by decide +kernel
def sX8_troopsThatAre : amS := (yX8_troopsThatAre, cX8_troopsThatAre, 4, (some .int), [], 0, 0, 0, 0)
theorem np_X8_troopsThatAre : (parseMethodDescriptor (sy sX8_troopsThatAre).desc).map (fun d => d.parameters.length + 1) = some 2 := by decide +kernel
def sX8_strengthOf : amS := (yX8_strengthOf, cX8_strengthOf, 4, (some .int), [], 0, 0, 0, 0)
theorem np_X8_strengthOf : (parseMethodDescriptor (sy sX8_strengthOf).desc).map (fun d => d.parameters.length + 1) = some 2 := by decide +kernel
def sX8_figure : amS := (yX8_figure, cX8_figure, 2, (some .int), [], 1, 23, 0, 0)
theorem np_X8_figure : (parseMethodDescriptor (sy sX8_figure).desc).map (fun d => d.parameters.length + 1) = some 2 := by decide +kernel
def sX8_lostByBoth : amS := (yX8_lostByBoth, cX8_lostByBoth, 1, (some .int), [], 0, 0, 0, 0)
theorem np_X8_lostByBoth : (parseMethodDescriptor (sy sX8_lostByBoth).desc).map (fun d => d.parameters.length + 1) = some 1 := by decide +kernel
def sX8_shareLeft : amS := (yX8_shareLeft, cX8_shareLeft, 3, (some .double), [], 1, 23, 0, 0)
theorem np_X8_shareLeft : (parseMethodDescriptor (sy sX8_shareLeft).desc).map (fun d => d.parameters.length + 1) = some 1 := by decide +kernel
def sX9_init : amS := (yX9_init, cX9_init, 1, none, [], 4, 82, 360, 3355)
theorem np_X9_init : (parseMethodDescriptor (sy sX9_init).desc).map (fun d => d.parameters.length + 1) = some 1 := by decide +kernel
def sX9_needCell : amS := (yX9_needCell, cX9_needCell, 1, none, [], 6, 168, 1, 6)
theorem np_X9_needCell : (parseMethodDescriptor (sy sX9_needCell).desc).map (fun d => d.parameters.length) = some 1 := by decide +kernel
def sX9_shape : amS := (yX9_shape, cX9_shape, 4, (some .int), [], 7, 188, 3, 18)
theorem np_X9_shape : (parseMethodDescriptor (sy sX9_shape).desc).map (fun d => d.parameters.length + 1) = some 4 := by decide +kernel
def sX9_needSide : amS := (yX9_needSide, cX9_needSide, 1, none, [], 6, 168, 1, 6)
theorem np_X9_needSide : (parseMethodDescriptor (sy sX9_needSide).desc).map (fun d => d.parameters.length) = some 1 := by decide +kernel
def sX9_moveGeneral : amS := (yX9_moveGeneral, cX9_moveGeneral, 4, (some .int), [], 7, 188, 2, 12)
theorem np_X9_moveGeneral : (parseMethodDescriptor (sy sX9_moveGeneral).desc).map (fun d => d.parameters.length + 1) = some 3 := by decide +kernel
def sX9_addTroop : amS := (yX9_addTroop, cX9_addTroop, 4, (some .int), [], 7, 188, 3, 18)
theorem np_X9_addTroop : (parseMethodDescriptor (sy sX9_addTroop).desc).map (fun d => d.parameters.length + 1) = some 4 := by decide +kernel
def sX9_needTroop : amS := (yX9_needTroop, cX9_needTroop, 2, none, [], 6, 168, 1, 6)
theorem np_X9_needTroop : (parseMethodDescriptor (sy sX9_needTroop).desc).map (fun d => d.parameters.length + 1) = some 2 := by decide +kernel
def sX9_sendOrder : amS := (yX9_sendOrder, cX9_sendOrder, 4, (some .int), [], 4, 98, 0, 0)
theorem np_X9_sendOrder : (parseMethodDescriptor (sy sX9_sendOrder).desc).map (fun d => d.parameters.length + 1) = some 3 := by decide +kernel
def sX9_order : amS := (yX9_order, cX9_order, 3, (some .int), [], 7, 189, 3, 18)
theorem np_X9_order : (parseMethodDescriptor (sy sX9_order).desc).map (fun d => d.parameters.length + 1) = some 3 := by decide +kernel
def sX9_needTurns : amS := (yX9_needTurns, cX9_needTurns, 1, none, [], 6, 168, 1, 6)
theorem np_X9_needTurns : (parseMethodDescriptor (sy sX9_needTurns).desc).map (fun d => d.parameters.length) = some 1 := by decide +kernel
def sX9_pass : amS := (yX9_pass, cX9_pass, 3, (some .int), [], 7, 188, 2, 12)
theorem np_X9_pass : (parseMethodDescriptor (sy sX9_pass).desc).map (fun d => d.parameters.length + 1) = some 2 := by decide +kernel
def sX9_needFigure : amS := (yX9_needFigure, cX9_needFigure, 2, none, [], 6, 168, 1, 6)
theorem np_X9_needFigure : (parseMethodDescriptor (sy sX9_needFigure).desc).map (fun d => d.parameters.length) = some 2 := by decide +kernel
def sX9_cell : amS := (yX9_cell, cX9_cell, 3, (some .int), [], 7, 189, 2, 12)
theorem np_X9_cell : (parseMethodDescriptor (sy sX9_cell).desc).map (fun d => d.parameters.length + 1) = some 3 := by decide +kernel
def sX9_troop : amS := (yX9_troop, cX9_troop, 3, (some .int), [], 7, 189, 2, 12)
theorem np_X9_troop : (parseMethodDescriptor (sy sX9_troop).desc).map (fun d => d.parameters.length + 1) = some 3 := by decide +kernel
def sX9_underWay : amS := (yX9_underWay, cX9_underWay, 3, (some .int), [], 7, 189, 2, 12)
theorem np_X9_underWay : (parseMethodDescriptor (sy sX9_underWay).desc).map (fun d => d.parameters.length + 1) = some 3 := by decide +kernel
def sX9_countNow : amS := (yX9_countNow, cX9_countNow, 2, (some .int), [], 2, 44, 0, 0)
theorem np_X9_countNow : (parseMethodDescriptor (sy sX9_countNow).desc).map (fun d => d.parameters.length + 1) = some 2 := by decide +kernel
def sX9_count : amS := (yX9_count, cX9_count, 2, (some .int), [], 7, 189, 1, 6)
theorem np_X9_count : (parseMethodDescriptor (sy sX9_count).desc).map (fun d => d.parameters.length + 1) = some 2 := by decide +kernel
def sX9_sees : amS := (yX9_sees, cX9_sees, 3, (some .boolean), [], 7, 188, 2, 12)
theorem np_X9_sees : (parseMethodDescriptor (sy sX9_sees).desc).map (fun d => d.parameters.length + 1) = some 3 := by decide +kernel
def sX9_distance : amS := (yX9_distance, cX9_distance, 3, (some .int), [], 7, 188, 2, 12)
theorem np_X9_distance : (parseMethodDescriptor (sy sX9_distance).desc).map (fun d => d.parameters.length + 1) = some 3 := by decide +kernel
def sX9_why : amS := (yX9_why, cX9_why, 2, (some .int), [], 7, 189, 1, 6)
theorem np_X9_why : (parseMethodDescriptor (sy sX9_why).desc).map (fun d => d.parameters.length + 1) = some 2 := by decide +kernel
def sX9_ifPassed : amS := (yX9_ifPassed, cX9_ifPassed, 3, (some .int), [], 7, 188, 2, 12)
theorem np_X9_ifPassed : (parseMethodDescriptor (sy sX9_ifPassed).desc).map (fun d => d.parameters.length + 1) = some 3 := by decide +kernel
def sX9_arrivesIn : amS := (yX9_arrivesIn, cX9_arrivesIn, 4, (some .int), [], 7, 189, 1, 6)
theorem np_X9_arrivesIn : (parseMethodDescriptor (sy sX9_arrivesIn).desc).map (fun d => d.parameters.length + 1) = some 2 := by decide +kernel
def sX9_strengthLeft : amS := (yX9_strengthLeft, cX9_strengthLeft, 1, (some .double), [], 2, 45, 0, 0)
theorem np_X9_strengthLeft : (parseMethodDescriptor (sy sX9_strengthLeft).desc).map (fun d => d.parameters.length + 1) = some 1 := by decide +kernel
def sL_cell : amS := (yL_cell, cL_cell, 2, (some .int), [], 0, 0, 0, 0)
theorem np_L_cell : (parseMethodDescriptor (sy sL_cell).desc).map (fun d => d.parameters.length) = some 2 := by decide +kernel
def sL_at : amS := (yL_at, cL_at, 2, (some .int), [], 0, 0, 0, 0)
theorem np_L_at : (parseMethodDescriptor (sy sL_at).desc).map (fun d => d.parameters.length) = some 2 := by decide +kernel
def sL_big : amS := (yL_big, cL_big, 1, (some .int), [], 0, 0, 0, 0)
theorem np_L_big : (parseMethodDescriptor (sy sL_big).desc).map (fun d => d.parameters.length) = some 1 := by decide +kernel
def sL_abs : amS := (yL_abs, cL_abs, 1, (some .int), [], 0, 0, 0, 0)
theorem np_L_abs : (parseMethodDescriptor (sy sL_abs).desc).map (fun d => d.parameters.length) = some 1 := by decide +kernel
def sL_beside : amS := (yL_beside, cL_beside, 2, (some .int), [], 0, 0, 0, 0)
theorem np_L_beside : (parseMethodDescriptor (sy sL_beside).desc).map (fun d => d.parameters.length) = some 2 := by decide +kernel
def sL_step : amS := (yL_step, cL_step, 4, (some .int), [], 1, 21, 0, 0)
theorem np_L_step : (parseMethodDescriptor (sy sL_step).desc).map (fun d => d.parameters.length) = some 3 := by decide +kernel
def sL_who : amS := (yL_who, cL_who, 4, (some .int), [], 0, 0, 0, 0)
theorem np_L_who : (parseMethodDescriptor (sy sL_who).desc).map (fun d => d.parameters.length) = some 3 := by decide +kernel
def sL_floor : amS := (yL_floor, cL_floor, 3, (some .int), [], 0, 0, 0, 0)
theorem np_L_floor : (parseMethodDescriptor (sy sL_floor).desc).map (fun d => d.parameters.length) = some 2 := by decide +kernel
def sL_sees : amS := (yL_sees, cL_sees, 10, (some .boolean), [], 1, 22, 0, 0)
theorem np_L_sees : (parseMethodDescriptor (sy sL_sees).desc).map (fun d => d.parameters.length) = some 3 := by decide +kernel
def sL_spread : amS := (yL_spread, cL_spread, 10, none, [], 2, 44, 0, 0)
theorem np_L_spread : (parseMethodDescriptor (sy sL_spread).desc).map (fun d => d.parameters.length) = some 6 := by decide +kernel
def sL_time : amS := (yL_time, cL_time, 7, (some .int), [], 3, 73, 1, 64)
theorem np_L_time : (parseMethodDescriptor (sy sL_time).desc).map (fun d => d.parameters.length) = some 5 := by decide +kernel
def sL_why : amS := (yL_why, cL_why, 4, (some .int), [], 4, 99, 1, 64)
theorem np_L_why : (parseMethodDescriptor (sy sL_why).desc).map (fun d => d.parameters.length) = some 4 := by decide +kernel
def sL_turn : amS := (yL_turn, cL_turn, 11, none, [], 3, 73, 1, 64)
theorem np_L_turn : (parseMethodDescriptor (sy sL_turn).desc).map (fun d => d.parameters.length) = some 4 := by decide +kernel
def sL_counted : amS := (yL_counted, cL_counted, 5, (some .int), [], 0, 0, 0, 0)
theorem np_L_counted : (parseMethodDescriptor (sy sL_counted).desc).map (fun d => d.parameters.length) = some 3 := by decide +kernel
def sL_told : amS := (yL_told, cL_told, 14, (some .boolean), [], 8, 211, 400, 3000)
theorem np_L_told : (parseMethodDescriptor (sy sL_told).desc).map (fun d => d.parameters.length) = some 7 := by decide +kernel
def sL_ahead : amS := (yL_ahead, cL_ahead, 14, (some .boolean), [], 8, 212, 160, 10240)
theorem np_L_ahead : (parseMethodDescriptor (sy sL_ahead).desc).map (fun d => d.parameters.length) = some 7 := by decide +kernel
def sL_act : amS := (yL_act, cL_act, 13, (some .boolean), [], 8, 211, 10, 640)
theorem np_L_act : (parseMethodDescriptor (sy sL_act).desc).map (fun d => d.parameters.length) = some 8 := by decide +kernel
def sL_law : amS := ((⟨"CourierWarLaw", "law", "([I)Z"⟩ : MethodName), cL_law, 9, (some .boolean), [], 9, 245, 600130, 7301080)
theorem thA_0 : ∀ w ∈ vx_atS RX9 185 (amEx 0) ["java/lang/RuntimeException", "java/lang/Exception"], w ∈ lw_tbl ∧ w.onTables = true := by decide +kernel
theorem thG_0 : ∀ w ∈ Cond.classLink RX9 181 (amEx 0) :: Cond.initialized (amEx 0) :: vx_atS RX9 185 (amEx 0) ["java/lang/RuntimeException", "java/lang/Exception"], vx_ot w = true := by decide +kernel
theorem thA_1 : ∀ w ∈ vx_atS RX9 55 (amEx 1) ["java/lang/RuntimeException", "java/lang/Exception"], w ∈ lw_tbl ∧ w.onTables = true := by decide +kernel
theorem thG_1 : ∀ w ∈ Cond.classLink RX9 51 (amEx 1) :: Cond.initialized (amEx 1) :: vx_atS RX9 55 (amEx 1) ["java/lang/RuntimeException", "java/lang/Exception"], vx_ot w = true := by decide +kernel
theorem thA_2 : ∀ w ∈ vx_atS RX9 95 (amEx 2) ["java/lang/RuntimeException", "java/lang/Exception"], w ∈ lw_tbl ∧ w.onTables = true := by decide +kernel
theorem thG_2 : ∀ w ∈ Cond.classLink RX9 91 (amEx 2) :: Cond.initialized (amEx 2) :: vx_atS RX9 95 (amEx 2) ["java/lang/RuntimeException", "java/lang/Exception"], vx_ot w = true := by decide +kernel
theorem ok_newO {M : amM} {pc idx len ci N a3 : Nat} {S : Option amS} {C : String} {T : u_T} (h : ci < 100) (hl : len = 3) (h1 : vwCl[ci]? = some (C, T, N)) (w1 : Cond.classLink M.2.1 idx C ∈ lw_tbl) (w2 : Cond.instantiable C N ∈ lw_tbl) (w3 : Cond.initialized C ∈ lw_tbl) : amOk1 M (pc, .new idx, len, (ci, N, a3), S) := by
  show if ci < 100 then _ else _
  rw [if_pos h]
  exact ⟨hl, C, T, h1, w1, w2, w3⟩
theorem ok_newT {M : amM} {pc idx len a b c : Nat} {S : Option amS} (h : ¬ a < 100) (hl : len = 3) (ht : amThr M pc idx (a - 100)) : amOk1 M (pc, .new idx, len, (a, b, c), S) := by
  show if a < 100 then _ else _
  rw [if_neg h]
  exact ⟨hl, ht⟩
theorem am_lookup {β : Type} {P : Nat → β → Prop} : ∀ (bs : List (Nat × β)), (∀ q ∈ bs, P q.1 q.2) → ∀ (t : Nat) (l : β), bs.lookup t = some l → P t l := by
  intro bs
  induction bs with
  | nil => intro _ t l h; cases h
  | cons b bs ih =>
    intro hb t l h
    obtain ⟨t0, l0⟩ := b
    rw [List.lookup_cons] at h
    cases he : (t == t0) with
    | true =>
      rw [he] at h
      have e1 : t = t0 := by simpa using he
      cases h
      rw [e1]
      exact hb _ List.mem_cons_self
    | false =>
      rw [he] at h
      exact ih (fun q hq => hb q (List.mem_cons_of_mem _ hq)) t l h
theorem am_tab0 {M : amM} (h : sh M.1 = []) : amTab M := by
  refine ⟨?_, fun i q k hq => ?_⟩
  · unfold amHk
    rw [h]; rfl
  · rw [h] at hq; cases hq

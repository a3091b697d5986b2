/-! ===== the methods by their contracts' sides ===== -/
theorem nc_X9 : (RX9 : String) ≠ "java/lang/invoke/MethodHandle" ∧ (RX9 : String) ≠ "java/lang/invoke/VarHandle" := ⟨by decide, by decide⟩
theorem nc_X0 : (RX0 : String) ≠ "java/lang/invoke/MethodHandle" ∧ (RX0 : String) ≠ "java/lang/invoke/VarHandle" := ⟨by decide, by decide⟩
theorem nc_X1 : (RX1 : String) ≠ "java/lang/invoke/MethodHandle" ∧ (RX1 : String) ≠ "java/lang/invoke/VarHandle" := ⟨by decide, by decide⟩
theorem nc_X2 : (RX2 : String) ≠ "java/lang/invoke/MethodHandle" ∧ (RX2 : String) ≠ "java/lang/invoke/VarHandle" := ⟨by decide, by decide⟩
theorem nc_X3 : (RX3 : String) ≠ "java/lang/invoke/MethodHandle" ∧ (RX3 : String) ≠ "java/lang/invoke/VarHandle" := ⟨by decide, by decide⟩
theorem nc_X4 : (RX4 : String) ≠ "java/lang/invoke/MethodHandle" ∧ (RX4 : String) ≠ "java/lang/invoke/VarHandle" := ⟨by decide, by decide⟩
theorem nc_X5 : (RX5 : String) ≠ "java/lang/invoke/MethodHandle" ∧ (RX5 : String) ≠ "java/lang/invoke/VarHandle" := ⟨by decide, by decide⟩
theorem nc_X6 : (RX6 : String) ≠ "java/lang/invoke/MethodHandle" ∧ (RX6 : String) ≠ "java/lang/invoke/VarHandle" := ⟨by decide, by decide⟩
theorem nc_X7 : (RX7 : String) ≠ "java/lang/invoke/MethodHandle" ∧ (RX7 : String) ≠ "java/lang/invoke/VarHandle" := ⟨by decide, by decide⟩
theorem nc_X8 : (RX8 : String) ≠ "java/lang/invoke/MethodHandle" ∧ (RX8 : String) ≠ "java/lang/invoke/VarHandle" := ⟨by decide, by decide⟩
theorem nc_L : (RL : String) ≠ "java/lang/invoke/MethodHandle" ∧ (RL : String) ≠ "java/lang/invoke/VarHandle" := ⟨by decide, by decide⟩
theorem nc_X10 : (RX10 : String) ≠ "java/lang/invoke/MethodHandle" ∧ (RX10 : String) ≠ "java/lang/invoke/VarHandle" := ⟨by decide, by decide⟩
theorem nc_Jxe99ae : (RJxe99ae : String) ≠ "java/lang/invoke/MethodHandle" ∧ (RJxe99ae : String) ≠ "java/lang/invoke/VarHandle" := ⟨by decide, by decide⟩
theorem nc_J7 : (RJ7 : String) ≠ "java/lang/invoke/MethodHandle" ∧ (RJ7 : String) ≠ "java/lang/invoke/VarHandle" := ⟨by decide, by decide⟩
def sX4_init : amS := (yX4_init, cX4_init, 1, none, [], 1, 20, 3, 288)
theorem np_X4_init : (parseMethodDescriptor (sy sX4_init).desc).map (fun d => d.parameters.length + 1) = some 1 := by decide +kernel
def sX0_init : amS := (yX0_init, cX0_init, 1, none, [], 2, 40, 5, 387)
theorem np_X0_init : (parseMethodDescriptor (sy sX0_init).desc).map (fun d => d.parameters.length + 1) = some 1 := by decide +kernel
def sJ7_fill_53178 : amS := (yJ7_fill_53178, cJ7_fill_53178, 4, none, [], 0, 0, 0, 0)
theorem np_J7_fill_53178 : (parseMethodDescriptor (sy sJ7_fill_53178).desc).map (fun d => d.parameters.length) = some 2 := by decide +kernel
def sX9_neighbour : amS := (yX9_neighbour, cX9_neighbour, 2, (some .int), [], 0, 0, 0, 0)
theorem np_X9_neighbour : (parseMethodDescriptor (sy sX9_neighbour).desc).map (fun d => d.parameters.length) = some 2 := by decide +kernel
def sX4_isOpen : amS := (yX4_isOpen, cX4_isOpen, 2, (some .boolean), [], 0, 0, 0, 0)
theorem np_X4_isOpen : (parseMethodDescriptor (sy sX4_isOpen).desc).map (fun d => d.parameters.length + 1) = some 2 := by decide +kernel
def sX5_canStep : amS := (yX5_canStep, cX5_canStep, 4, (some .boolean), [], 0, 0, 0, 0)
theorem np_X5_canStep : (parseMethodDescriptor (sy sX5_canStep).desc).map (fun d => d.parameters.length + 1) = some 3 := by decide +kernel
def sX4_spread : amS := (yX4_spread, cX4_spread, 9, none, [], 1, 23, 0, 0)
theorem np_X4_spread : (parseMethodDescriptor (sy sX4_spread).desc).map (fun d => d.parameters.length + 1) = some 4 := by decide +kernel
def sX0_stepsBetween : amS := (yX0_stepsBetween, cX0_stepsBetween, 4, (some .int), [], 2, 51, 0, 0)
theorem np_X0_stepsBetween : (parseMethodDescriptor (sy sX0_stepsBetween).desc).map (fun d => d.parameters.length + 1) = some 4 := by decide +kernel
def sX5_between : amS := (yX5_between, cX5_between, 4, (some .int), [], 0, 0, 0, 0)
theorem np_X5_between : (parseMethodDescriptor (sy sX5_between).desc).map (fun d => d.parameters.length) = some 4 := by decide +kernel
def sX5_inSight : amS := (yX5_inSight, cX5_inSight, 10, (some .boolean), [], 1, 40, 0, 0)
theorem np_X5_inSight : (parseMethodDescriptor (sy sX5_inSight).desc).map (fun d => d.parameters.length + 1) = some 3 := by decide +kernel
def sX0_ridingTurns : amS := (yX0_ridingTurns, cX0_ridingTurns, 1, (some .int), [], 1, 40, 0, 0)
theorem np_X0_ridingTurns : (parseMethodDescriptor (sy sX0_ridingTurns).desc).map (fun d => d.parameters.length) = some 1 := by decide +kernel
def sX0_turnsTo : amS := (yX0_turnsTo, cX0_turnsTo, 5, (some .int), [], 3, 74, 0, 0)
theorem np_X0_turnsTo : (parseMethodDescriptor (sy sX0_turnsTo).desc).map (fun d => d.parameters.length + 1) = some 3 := by decide +kernel
def sX0_refusal : amS := (yX0_refusal, cX0_refusal, 3, (some .int), [], 4, 98, 0, 0)
theorem np_X0_refusal : (parseMethodDescriptor (sy sX0_refusal).desc).map (fun d => d.parameters.length + 1) = some 3 := by decide +kernel
def sX0_addTurns : amS := (yX0_addTurns, cX0_addTurns, 5, none, [], 2, 69, 0, 0)
theorem np_X0_addTurns : (parseMethodDescriptor (sy sX0_addTurns).desc).map (fun d => d.parameters.length + 1) = some 3 := by decide +kernel
def sX0_bestCell : amS := (yX0_bestCell, cX0_bestCell, 5, (some .int), [], 3, 93, 0, 0)
theorem np_X0_bestCell : (parseMethodDescriptor (sy sX0_bestCell).desc).map (fun d => d.parameters.length + 1) = some 3 := by decide +kernel
def sX5_init : amS := (yX5_init, cX5_init, 1, none, [], 1, 20, 1, 96)
theorem np_X5_init : (parseMethodDescriptor (sy sX5_init).desc).map (fun d => d.parameters.length + 1) = some 1 := by decide +kernel
def sX7_init : amS := (yX7_init, cX7_init, 1, none, [], 1, 20, 0, 0)
theorem np_X7_init : (parseMethodDescriptor (sy sX7_init).desc).map (fun d => d.parameters.length + 1) = some 1 := by decide +kernel
def sX3_init : amS := (yX3_init, cX3_init, 1, none, [], 1, 20, 0, 0)
theorem np_X3_init : (parseMethodDescriptor (sy sX3_init).desc).map (fun d => d.parameters.length + 1) = some 1 := by decide +kernel
def sX8_init : amS := (yX8_init, cX8_init, 2, none, [], 2, 40, 48, 359)
theorem np_X8_init : (parseMethodDescriptor (sy sX8_init).desc).map (fun d => d.parameters.length + 1) = some 1 := by decide +kernel
def sX1_init : amS := (yX1_init, cX1_init, 2, none, [], 3, 61, 246, 1850)
theorem np_X1_init : (parseMethodDescriptor (sy sX1_init).desc).map (fun d => d.parameters.length + 1) = some 1 := by decide +kernel
def sX1_dropOldest : amS := (yX1_dropOldest, cX1_dropOldest, 3, none, [], 0, 0, 0, 0)
theorem np_X1_dropOldest : (parseMethodDescriptor (sy sX1_dropOldest).desc).map (fun d => d.parameters.length + 1) = some 1 := by decide +kernel
def sX5_copyFrom : amS := (yX5_copyFrom, cX5_copyFrom, 2, none, [], 1, 40, 0, 0)
theorem np_X5_copyFrom : (parseMethodDescriptor (sy sX5_copyFrom).desc).map (fun d => d.parameters.length + 1) = some 2 := by decide +kernel
def sX7_copyFrom : amS := (yX7_copyFrom, cX7_copyFrom, 2, none, [], 0, 0, 0, 0)
theorem np_X7_copyFrom : (parseMethodDescriptor (sy sX7_copyFrom).desc).map (fun d => d.parameters.length + 1) = some 2 := by decide +kernel
def sX3_write : amS := (yX3_write, cX3_write, 5, none, [], 0, 0, 0, 0)
theorem np_X3_write : (parseMethodDescriptor (sy sX3_write).desc).map (fun d => d.parameters.length + 1) = some 5 := by decide +kernel
def sX3_copyFrom : amS := (yX3_copyFrom, cX3_copyFrom, 2, none, [], 1, 24, 0, 0)
theorem np_X3_copyFrom : (parseMethodDescriptor (sy sX3_copyFrom).desc).map (fun d => d.parameters.length + 1) = some 2 := by decide +kernel
def sX8_copyFrom : amS := (yX8_copyFrom, cX8_copyFrom, 3, none, [], 2, 61, 0, 0)
theorem np_X8_copyFrom : (parseMethodDescriptor (sy sX8_copyFrom).desc).map (fun d => d.parameters.length + 1) = some 2 := by decide +kernel
def sX1_save : amS := (yX1_save, cX1_save, 2, none, [], 3, 83, 0, 0)
theorem np_X1_save : (parseMethodDescriptor (sy sX1_save).desc).map (fun d => d.parameters.length + 1) = some 2 := by decide +kernel
def sX1_restore : amS := (yX1_restore, cX1_restore, 2, none, [], 3, 83, 0, 0)
theorem np_X1_restore : (parseMethodDescriptor (sy sX1_restore).desc).map (fun d => d.parameters.length + 1) = some 2 := by decide +kernel
def sX2_init : amS := (yX2_init, cX2_init, 1, none, [], 2, 40, 4, 291)
theorem np_X2_init : (parseMethodDescriptor (sy sX2_init).desc).map (fun d => d.parameters.length + 1) = some 1 := by decide +kernel
def sX8_dropFirstOrders : amS := (yX8_dropFirstOrders, cX8_dropFirstOrders, 3, none, [], 2, 45, 0, 0)
theorem np_X8_dropFirstOrders : (parseMethodDescriptor (sy sX8_dropFirstOrders).desc).map (fun d => d.parameters.length + 1) = some 2 := by decide +kernel
def sX2_bringOrders : amS := (yX2_bringOrders, cX2_bringOrders, 4, none, [], 3, 67, 0, 0)
theorem np_X2_bringOrders : (parseMethodDescriptor (sy sX2_bringOrders).desc).map (fun d => d.parameters.length) = some 1 := by decide +kernel
def sX4_openAll : amS := (yX4_openAll, cX4_openAll, 1, none, [], 1, 23, 0, 0)
theorem np_X4_openAll : (parseMethodDescriptor (sy sX4_openAll).desc).map (fun d => d.parameters.length + 1) = some 1 := by decide +kernel
def sX4_freeStepNearer : amS := (yX4_freeStepNearer, cX4_freeStepNearer, 5, (some .int), [], 1, 23, 0, 0)
theorem np_X4_freeStepNearer : (parseMethodDescriptor (sy sX4_freeStepNearer).desc).map (fun d => d.parameters.length + 1) = some 3 := by decide +kernel
def sX2_stepToGoal : amS := (yX2_stepToGoal, cX2_stepToGoal, 5, none, [], 2, 51, 0, 0)
theorem np_X2_stepToGoal : (parseMethodDescriptor (sy sX2_stepToGoal).desc).map (fun d => d.parameters.length + 1) = some 3 := by decide +kernel
def sX8_troopIn : amS := (yX8_troopIn, cX8_troopIn, 3, (some .int), [], 0, 0, 0, 0)
theorem np_X8_troopIn : (parseMethodDescriptor (sy sX8_troopIn).desc).map (fun d => d.parameters.length + 1) = some 2 := by decide +kernel
def sX2_stepBack : amS := (yX2_stepBack, cX2_stepBack, 3, none, [], 1, 23, 0, 0)
theorem np_X2_stepBack : (parseMethodDescriptor (sy sX2_stepBack).desc).map (fun d => d.parameters.length) = some 2 := by decide +kernel
def sX2_march : amS := (yX2_march, cX2_march, 4, none, [], 3, 75, 0, 0)
theorem np_X2_march : (parseMethodDescriptor (sy sX2_march).desc).map (fun d => d.parameters.length + 1) = some 2 := by decide +kernel
def sX7_isEnemyOf : amS := (yX7_isEnemyOf, cX7_isEnemyOf, 2, (some .boolean), [], 0, 0, 0, 0)
theorem np_X7_isEnemyOf : (parseMethodDescriptor (sy sX7_isEnemyOf).desc).map (fun d => d.parameters.length + 1) = some 2 := by decide +kernel
def sX2_lossOf : amS := (yX2_lossOf, cX2_lossOf, 6, (some .int), [], 1, 40, 0, 0)
theorem np_X2_lossOf : (parseMethodDescriptor (sy sX2_lossOf).desc).map (fun d => d.parameters.length) = some 2 := by decide +kernel
def sX2_fight : amS := (yX2_fight, cX2_fight, 3, none, [], 2, 65, 0, 0)
theorem np_X2_fight : (parseMethodDescriptor (sy sX2_fight).desc).map (fun d => d.parameters.length) = some 1 := by decide +kernel
def sX2_seesEnemy : amS := (yX2_seesEnemy, cX2_seesEnemy, 4, (some .boolean), [], 2, 69, 0, 0)
theorem np_X2_seesEnemy : (parseMethodDescriptor (sy sX2_seesEnemy).desc).map (fun d => d.parameters.length) = some 2 := by decide +kernel
def sX2_steadyOrRout : amS := (yX2_steadyOrRout, cX2_steadyOrRout, 2, none, [], 3, 92, 0, 0)
theorem np_X2_steadyOrRout : (parseMethodDescriptor (sy sX2_steadyOrRout).desc).map (fun d => d.parameters.length) = some 2 := by decide +kernel
def sX2_play : amS := (yX2_play, cX2_play, 5, none, [], 4, 113, 0, 0)
theorem np_X2_play : (parseMethodDescriptor (sy sX2_play).desc).map (fun d => d.parameters.length + 1) = some 3 := by decide +kernel
def sX3_figure : amS := (yX3_figure, cX3_figure, 2, (some .int), [], 0, 0, 0, 0)
theorem np_X3_figure : (parseMethodDescriptor (sy sX3_figure).desc).map (fun d => d.parameters.length + 1) = some 2 := by decide +kernel
def sX5_level : amS := (yX5_level, cX5_level, 7, (some .int), [], 0, 0, 0, 0)
theorem np_X5_level : (parseMethodDescriptor (sy sX5_level).desc).map (fun d => d.parameters.length + 1) = some 4 := by decide +kernel
def sX5_exits : amS := (yX5_exits, cX5_exits, 5, (some .int), [], 1, 23, 0, 0)
theorem np_X5_exits : (parseMethodDescriptor (sy sX5_exits).desc).map (fun d => d.parameters.length + 1) = some 2 := by decide +kernel
def sX5_cellsInSight : amS := (yX5_cellsInSight, cX5_cellsInSight, 4, (some .int), [], 2, 69, 0, 0)
theorem np_X5_cellsInSight : (parseMethodDescriptor (sy sX5_cellsInSight).desc).map (fun d => d.parameters.length + 1) = some 2 := by decide +kernel
def sX6_init : amS := (yX6_init, cX6_init, 1, none, [], 1, 20, 3, 80)
theorem np_X6_init : (parseMethodDescriptor (sy sX6_init).desc).map (fun d => d.parameters.length + 1) = some 1 := by decide +kernel
def sX6_add : amS := (yX6_add, cX6_add, 2, (some .int), [], 0, 0, 0, 0)
theorem np_X6_add : (parseMethodDescriptor (sy sX6_add).desc).map (fun d => d.parameters.length + 1) = some 2 := by decide +kernel
def sX6_isDigit : amS := (yX6_isDigit, cX6_isDigit, 2, (some .boolean), [], 0, 0, 0, 0)
theorem np_X6_isDigit : (parseMethodDescriptor (sy sX6_isDigit).desc).map (fun d => d.parameters.length) = some 2 := by decide +kernel
def sX6_afterDigit : amS := (yX6_afterDigit, cX6_afterDigit, 3, (some .int), [], 1, 21, 0, 0)
theorem np_X6_afterDigit : (parseMethodDescriptor (sy sX6_afterDigit).desc).map (fun d => d.parameters.length) = some 3 := by decide +kernel
def sX6_afterSign : amS := (yX6_afterSign, cX6_afterSign, 3, (some .int), [], 0, 0, 0, 0)
theorem np_X6_afterSign : (parseMethodDescriptor (sy sX6_afterSign).desc).map (fun d => d.parameters.length) = some 3 := by decide +kernel
def sX6_stageAfter : amS := (yX6_stageAfter, cX6_stageAfter, 2, (some .int), [], 2, 43, 0, 0)
theorem np_X6_stageAfter : (parseMethodDescriptor (sy sX6_stageAfter).desc).map (fun d => d.parameters.length) = some 2 := by decide +kernel
def sX6_firstFault : amS := (yX6_firstFault, cX6_firstFault, 3, (some .int), [], 3, 64, 0, 0)
theorem np_X6_firstFault : (parseMethodDescriptor (sy sX6_firstFault).desc).map (fun d => d.parameters.length + 1) = some 1 := by decide +kernel
def sX6_isComplete : amS := (yX6_isComplete, cX6_isComplete, 3, (some .boolean), [], 3, 64, 0, 0)
theorem np_X6_isComplete : (parseMethodDescriptor (sy sX6_isComplete).desc).map (fun d => d.parameters.length + 1) = some 1 := by decide +kernel
def sX6_readOrders : amS := (yX6_readOrders, cX6_readOrders, 6, (some .int), [], 1, 21, 0, 0)
theorem np_X6_readOrders : (parseMethodDescriptor (sy sX6_readOrders).desc).map (fun d => d.parameters.length + 1) = some 1 := by decide +kernel
def sX7_muster : amS := (yX7_muster, cX7_muster, 4, none, [], 0, 0, 0, 0)
theorem np_X7_muster : (parseMethodDescriptor (sy sX7_muster).desc).map (fun d => d.parameters.length + 1) = some 4 := by decide +kernel
def sX8_recruit : amS := (yX8_recruit, cX8_recruit, 5, (some .int), [], 1, 23, 0, 0)
theorem np_X8_recruit : (parseMethodDescriptor (sy sX8_recruit).desc).map (fun d => d.parameters.length + 1) = some 4 := by decide +kernel
def sX8_enqueue : amS := (yX8_enqueue, cX8_enqueue, 5, none, [], 2, 45, 0, 0)
theorem np_X8_enqueue : (parseMethodDescriptor (sy sX8_enqueue).desc).map (fun d => d.parameters.length + 1) = some 4 := by decide +kernel
def sX8_cellFigure : amS := (yX8_cellFigure, cX8_cellFigure, 3, (some .int), [], 3, 92, 0, 0)
theorem np_X8_cellFigure : (parseMethodDescriptor (sy sX8_cellFigure).desc).map (fun d => d.parameters.length + 1) = some 3 := by decide +kernel
def sX8_ordersFor : amS := (yX8_ordersFor, cX8_ordersFor, 4, (some .int), [], 0, 0, 0, 0)
theorem np_X8_ordersFor : (parseMethodDescriptor (sy sX8_ordersFor).desc).map (fun d => d.parameters.length + 1) = some 2 := by decide +kernel
def sX8_troopFigure : amS := (yX8_troopFigure, cX8_troopFigure, 4, (some .int), [], 1, 23, 0, 0)
theorem np_X8_troopFigure : (parseMethodDescriptor (sy sX8_troopFigure).desc).map (fun d => d.parameters.length + 1) = some 3 := by decide +kernel
def sX8_troopsThatAre : amS := (yX8_troopsThatAre, cX8_troopsThatAre, 4, (some .int), [], 0, 0, 0, 0)
theorem np_X8_troopsThatAre : (parseMethodDescriptor (sy sX8_troopsThatAre).desc).map (fun d => d.parameters.length + 1) = some 2 := by decide +kernel
def sX8_strengthOf : amS := (yX8_strengthOf, cX8_strengthOf, 4, (some .int), [], 0, 0, 0, 0)
theorem np_X8_strengthOf : (parseMethodDescriptor (sy sX8_strengthOf).desc).map (fun d => d.parameters.length + 1) = some 2 := by decide +kernel
def sX8_figure : amS := (yX8_figure, cX8_figure, 2, (some .int), [], 1, 23, 0, 0)
theorem np_X8_figure : (parseMethodDescriptor (sy sX8_figure).desc).map (fun d => d.parameters.length + 1) = some 2 := by decide +kernel
def sX8_lostByBoth : amS := (yX8_lostByBoth, cX8_lostByBoth, 1, (some .int), [], 0, 0, 0, 0)
theorem np_X8_lostByBoth : (parseMethodDescriptor (sy sX8_lostByBoth).desc).map (fun d => d.parameters.length + 1) = some 1 := by decide +kernel
def sX8_shareLeft : amS := (yX8_shareLeft, cX8_shareLeft, 3, (some .double), [], 1, 23, 0, 0)
theorem np_X8_shareLeft : (parseMethodDescriptor (sy sX8_shareLeft).desc).map (fun d => d.parameters.length + 1) = some 1 := by decide +kernel
def sX9_init : amS := (yX9_init, cX9_init, 1, none, [], 4, 82, 360, 3355)
theorem np_X9_init : (parseMethodDescriptor (sy sX9_init).desc).map (fun d => d.parameters.length + 1) = some 1 := by decide +kernel
def sX9_needCell : amS := (yX9_needCell, cX9_needCell, 1, none, [], 6, 168, 1, 6)
theorem np_X9_needCell : (parseMethodDescriptor (sy sX9_needCell).desc).map (fun d => d.parameters.length) = some 1 := by decide +kernel
def sX9_shape : amS := (yX9_shape, cX9_shape, 4, (some .int), [], 7, 188, 3, 18)
theorem np_X9_shape : (parseMethodDescriptor (sy sX9_shape).desc).map (fun d => d.parameters.length + 1) = some 4 := by decide +kernel
def sX9_needSide : amS := (yX9_needSide, cX9_needSide, 1, none, [], 6, 168, 1, 6)
theorem np_X9_needSide : (parseMethodDescriptor (sy sX9_needSide).desc).map (fun d => d.parameters.length) = some 1 := by decide +kernel
def sX9_moveGeneral : amS := (yX9_moveGeneral, cX9_moveGeneral, 4, (some .int), [], 7, 188, 2, 12)
theorem np_X9_moveGeneral : (parseMethodDescriptor (sy sX9_moveGeneral).desc).map (fun d => d.parameters.length + 1) = some 3 := by decide +kernel
def sX9_addTroop : amS := (yX9_addTroop, cX9_addTroop, 4, (some .int), [], 7, 188, 3, 18)
theorem np_X9_addTroop : (parseMethodDescriptor (sy sX9_addTroop).desc).map (fun d => d.parameters.length + 1) = some 4 := by decide +kernel
def sX9_needTroop : amS := (yX9_needTroop, cX9_needTroop, 2, none, [], 6, 168, 1, 6)
theorem np_X9_needTroop : (parseMethodDescriptor (sy sX9_needTroop).desc).map (fun d => d.parameters.length + 1) = some 2 := by decide +kernel
def sX9_sendOrder : amS := (yX9_sendOrder, cX9_sendOrder, 4, (some .int), [], 4, 98, 0, 0)
theorem np_X9_sendOrder : (parseMethodDescriptor (sy sX9_sendOrder).desc).map (fun d => d.parameters.length + 1) = some 3 := by decide +kernel
def sX9_order : amS := (yX9_order, cX9_order, 3, (some .int), [], 7, 189, 3, 18)
theorem np_X9_order : (parseMethodDescriptor (sy sX9_order).desc).map (fun d => d.parameters.length + 1) = some 3 := by decide +kernel
def sX9_needTurns : amS := (yX9_needTurns, cX9_needTurns, 1, none, [], 6, 168, 1, 6)
theorem np_X9_needTurns : (parseMethodDescriptor (sy sX9_needTurns).desc).map (fun d => d.parameters.length) = some 1 := by decide +kernel
def sX9_pass : amS := (yX9_pass, cX9_pass, 3, (some .int), [], 7, 188, 2, 12)
theorem np_X9_pass : (parseMethodDescriptor (sy sX9_pass).desc).map (fun d => d.parameters.length + 1) = some 2 := by decide +kernel
def sX9_append : amS := (yX9_append, cX9_append, 2, (some .int), [], 6, 168, 1, 6)
theorem np_X9_append : (parseMethodDescriptor (sy sX9_append).desc).map (fun d => d.parameters.length + 1) = some 2 := by decide +kernel
def sX9_clearBuffer : amS := (yX9_clearBuffer, cX9_clearBuffer, 2, (some .int), [], 0, 0, 0, 0)
theorem np_X9_clearBuffer : (parseMethodDescriptor (sy sX9_clearBuffer).desc).map (fun d => d.parameters.length + 1) = some 1 := by decide +kernel
def sX9_firstError : amS := (yX9_firstError, cX9_firstError, 1, (some .int), [], 4, 86, 0, 0)
theorem np_X9_firstError : (parseMethodDescriptor (sy sX9_firstError).desc).map (fun d => d.parameters.length + 1) = some 1 := by decide +kernel
def sX9_canSend : amS := (yX9_canSend, cX9_canSend, 2, (some .boolean), [], 5, 120, 0, 0)
theorem np_X9_canSend : (parseMethodDescriptor (sy sX9_canSend).desc).map (fun d => d.parameters.length + 1) = some 2 := by decide +kernel
def sX9_load : amS := (yX9_load, cX9_load, 3, (some .int), [], 6, 168, 1, 6)
theorem np_X9_load : (parseMethodDescriptor (sy sX9_load).desc).map (fun d => d.parameters.length + 1) = some 1 := by decide +kernel
def sX9_undo : amS := (yX9_undo, cX9_undo, 1, (some .int), [], 6, 168, 1, 6)
theorem np_X9_undo : (parseMethodDescriptor (sy sX9_undo).desc).map (fun d => d.parameters.length + 1) = some 1 := by decide +kernel
def sX9_needFigure : amS := (yX9_needFigure, cX9_needFigure, 2, none, [], 6, 168, 1, 6)
theorem np_X9_needFigure : (parseMethodDescriptor (sy sX9_needFigure).desc).map (fun d => d.parameters.length) = some 2 := by decide +kernel
def sX9_cell : amS := (yX9_cell, cX9_cell, 3, (some .int), [], 7, 189, 2, 12)
theorem np_X9_cell : (parseMethodDescriptor (sy sX9_cell).desc).map (fun d => d.parameters.length + 1) = some 3 := by decide +kernel
def sX9_troop : amS := (yX9_troop, cX9_troop, 3, (some .int), [], 7, 189, 2, 12)
theorem np_X9_troop : (parseMethodDescriptor (sy sX9_troop).desc).map (fun d => d.parameters.length + 1) = some 3 := by decide +kernel
def sX9_underWay : amS := (yX9_underWay, cX9_underWay, 3, (some .int), [], 7, 189, 2, 12)
theorem np_X9_underWay : (parseMethodDescriptor (sy sX9_underWay).desc).map (fun d => d.parameters.length + 1) = some 3 := by decide +kernel
def sX9_countNow : amS := (yX9_countNow, cX9_countNow, 2, (some .int), [], 2, 44, 0, 0)
theorem np_X9_countNow : (parseMethodDescriptor (sy sX9_countNow).desc).map (fun d => d.parameters.length + 1) = some 2 := by decide +kernel
def sX9_count : amS := (yX9_count, cX9_count, 2, (some .int), [], 7, 189, 1, 6)
theorem np_X9_count : (parseMethodDescriptor (sy sX9_count).desc).map (fun d => d.parameters.length + 1) = some 2 := by decide +kernel
def sX9_sees : amS := (yX9_sees, cX9_sees, 3, (some .boolean), [], 7, 188, 2, 12)
theorem np_X9_sees : (parseMethodDescriptor (sy sX9_sees).desc).map (fun d => d.parameters.length + 1) = some 3 := by decide +kernel
def sX9_distance : amS := (yX9_distance, cX9_distance, 3, (some .int), [], 7, 188, 2, 12)
theorem np_X9_distance : (parseMethodDescriptor (sy sX9_distance).desc).map (fun d => d.parameters.length + 1) = some 3 := by decide +kernel
def sX9_why : amS := (yX9_why, cX9_why, 2, (some .int), [], 7, 189, 1, 6)
theorem np_X9_why : (parseMethodDescriptor (sy sX9_why).desc).map (fun d => d.parameters.length + 1) = some 2 := by decide +kernel
def sX9_bestPost : amS := (yX9_bestPost, cX9_bestPost, 2, (some .int), [], 7, 188, 1, 6)
theorem np_X9_bestPost : (parseMethodDescriptor (sy sX9_bestPost).desc).map (fun d => d.parameters.length + 1) = some 2 := by decide +kernel
def sX9_ifPassed : amS := (yX9_ifPassed, cX9_ifPassed, 3, (some .int), [], 7, 188, 2, 12)
theorem np_X9_ifPassed : (parseMethodDescriptor (sy sX9_ifPassed).desc).map (fun d => d.parameters.length + 1) = some 3 := by decide +kernel
def sX9_arrivesIn : amS := (yX9_arrivesIn, cX9_arrivesIn, 4, (some .int), [], 7, 189, 1, 6)
theorem np_X9_arrivesIn : (parseMethodDescriptor (sy sX9_arrivesIn).desc).map (fun d => d.parameters.length + 1) = some 2 := by decide +kernel
def sX9_strengthLeft : amS := (yX9_strengthLeft, cX9_strengthLeft, 1, (some .double), [], 2, 45, 0, 0)
theorem np_X9_strengthLeft : (parseMethodDescriptor (sy sX9_strengthLeft).desc).map (fun d => d.parameters.length + 1) = some 1 := by decide +kernel
def sX9_mix : amS := (yX9_mix, cX9_mix, 4, (some .long), [], 0, 0, 0, 0)
theorem np_X9_mix : (parseMethodDescriptor (sy sX9_mix).desc).map (fun d => d.parameters.length) = some 2 := by decide +kernel
def sX9_mixCounts : amS := (yX9_mixCounts, cX9_mixCounts, 6, (some .long), [], 3, 65, 0, 0)
theorem np_X9_mixCounts : (parseMethodDescriptor (sy sX9_mixCounts).desc).map (fun d => d.parameters.length + 1) = some 2 := by decide +kernel
def sX9_mixCells : amS := (yX9_mixCells, cX9_mixCells, 7, (some .long), [], 4, 114, 0, 0)
theorem np_X9_mixCells : (parseMethodDescriptor (sy sX9_mixCells).desc).map (fun d => d.parameters.length + 1) = some 2 := by decide +kernel
def sX9_mixTroops : amS := (yX9_mixTroops, cX9_mixTroops, 7, (some .long), [], 5, 120, 0, 0)
theorem np_X9_mixTroops : (parseMethodDescriptor (sy sX9_mixTroops).desc).map (fun d => d.parameters.length + 1) = some 2 := by decide +kernel
def sX9_mixOrders : amS := (yX9_mixOrders, cX9_mixOrders, 7, (some .long), [], 1, 23, 0, 0)
theorem np_X9_mixOrders : (parseMethodDescriptor (sy sX9_mixOrders).desc).map (fun d => d.parameters.length + 1) = some 2 := by decide +kernel
def sX9_mixAhead : amS := (yX9_mixAhead, cX9_mixAhead, 6, (some .long), [], 5, 137, 0, 0)
theorem np_X9_mixAhead : (parseMethodDescriptor (sy sX9_mixAhead).desc).map (fun d => d.parameters.length + 1) = some 2 := by decide +kernel
def sX9_bitsOf : amS := (yX9_bitsOf, cX9_bitsOf, 8, (some .long), [], 0, 0, 0, 0)
theorem np_X9_bitsOf : (parseMethodDescriptor (sy sX9_bitsOf).desc).map (fun d => d.parameters.length) = some 1 := by decide +kernel
def sX9_mixText : amS := (yX9_mixText, cX9_mixText, 6, (some .long), [], 1, 23, 0, 0)
theorem np_X9_mixText : (parseMethodDescriptor (sy sX9_mixText).desc).map (fun d => d.parameters.length + 1) = some 2 := by decide +kernel
def sX9_digest : amS := (yX9_digest, cX9_digest, 4, (some .long), [], 6, 162, 0, 0)
theorem np_X9_digest : (parseMethodDescriptor (sy sX9_digest).desc).map (fun d => d.parameters.length + 1) = some 1 := by decide +kernel
def sX10_init : amS := (yX10_init, cX10_init, 1, none, [], 1, 20, 7, 2544)
theorem np_X10_init : (parseMethodDescriptor (sy sX10_init).desc).map (fun d => d.parameters.length + 1) = some 1 := by decide +kernel
def sX10_thrown : amS := (yX10_thrown, cX10_thrown, 1, (some .int), [], 0, 0, 0, 0)
theorem np_X10_thrown : (parseMethodDescriptor (sy sX10_thrown).desc).map (fun d => d.parameters.length + 1) = some 1 := by decide +kernel
def sX10_within : amS := (yX10_within, cX10_within, 3, (some .boolean), [], 0, 0, 0, 0)
theorem np_X10_within : (parseMethodDescriptor (sy sX10_within).desc).map (fun d => d.parameters.length) = some 3 := by decide +kernel
def sX10_size : amS := (yX10_size, cX10_size, 1, (some .int), [], 0, 0, 0, 0)
theorem np_X10_size : (parseMethodDescriptor (sy sX10_size).desc).map (fun d => d.parameters.length) = some 1 := by decide +kernel
def sX10_isCell : amS := (yX10_isCell, cX10_isCell, 1, (some .boolean), [], 1, 22, 0, 0)
theorem np_X10_isCell : (parseMethodDescriptor (sy sX10_isCell).desc).map (fun d => d.parameters.length) = some 1 := by decide +kernel
def sX10_isSide : amS := (yX10_isSide, cX10_isSide, 1, (some .boolean), [], 1, 22, 0, 0)
theorem np_X10_isSide : (parseMethodDescriptor (sy sX10_isSide).desc).map (fun d => d.parameters.length) = some 1 := by decide +kernel
def sX10_isTroop : amS := (yX10_isTroop, cX10_isTroop, 2, (some .boolean), [], 1, 22, 0, 0)
theorem np_X10_isTroop : (parseMethodDescriptor (sy sX10_isTroop).desc).map (fun d => d.parameters.length + 1) = some 2 := by decide +kernel
def sX10_of : amS := (yX10_of, cX10_of, 3, (some .int), [], 0, 0, 0, 0)
theorem np_X10_of : (parseMethodDescriptor (sy sX10_of).desc).map (fun d => d.parameters.length + 1) = some 3 := by decide +kernel
def sX10_lay : amS := (yX10_lay, cX10_lay, 4, none, [], 0, 0, 0, 0)
theorem np_X10_lay : (parseMethodDescriptor (sy sX10_lay).desc).map (fun d => d.parameters.length + 1) = some 4 := by decide +kernel
def sX10_isGone : amS := (yX10_isGone, cX10_isGone, 2, (some .boolean), [], 1, 22, 0, 0)
theorem np_X10_isGone : (parseMethodDescriptor (sy sX10_isGone).desc).map (fun d => d.parameters.length + 1) = some 2 := by decide +kernel
def sX10_neighbor : amS := (yX10_neighbor, cX10_neighbor, 3, (some .int), [], 0, 0, 0, 0)
theorem np_X10_neighbor : (parseMethodDescriptor (sy sX10_neighbor).desc).map (fun d => d.parameters.length) = some 2 := by decide +kernel
def sX10_stepTo : amS := (yX10_stepTo, cX10_stepTo, 4, (some .int), [], 1, 22, 0, 0)
theorem np_X10_stepTo : (parseMethodDescriptor (sy sX10_stepTo).desc).map (fun d => d.parameters.length + 1) = some 3 := by decide +kernel
def sX10_troopAt : amS := (yX10_troopAt, cX10_troopAt, 4, (some .int), [], 2, 43, 0, 0)
theorem np_X10_troopAt : (parseMethodDescriptor (sy sX10_troopAt).desc).map (fun d => d.parameters.length + 1) = some 2 := by decide +kernel
def sX10_spread : amS := (yX10_spread, cX10_spread, 7, none, [], 3, 66, 0, 0)
theorem np_X10_spread : (parseMethodDescriptor (sy sX10_spread).desc).map (fun d => d.parameters.length + 1) = some 3 := by decide +kernel
def sX10_distanceOf : amS := (yX10_distanceOf, cX10_distanceOf, 3, (some .int), [], 4, 92, 0, 0)
theorem np_X10_distanceOf : (parseMethodDescriptor (sy sX10_distanceOf).desc).map (fun d => d.parameters.length + 1) = some 3 := by decide +kernel
def sX10_isSeen : amS := (yX10_isSeen, cX10_isSeen, 14, (some .boolean), [], 1, 20, 0, 0)
theorem np_X10_isSeen : (parseMethodDescriptor (sy sX10_isSeen).desc).map (fun d => d.parameters.length + 1) = some 3 := by decide +kernel
def sX10_seenFrom : amS := (yX10_seenFrom, cX10_seenFrom, 4, (some .int), [], 2, 53, 0, 0)
theorem np_X10_seenFrom : (parseMethodDescriptor (sy sX10_seenFrom).desc).map (fun d => d.parameters.length + 1) = some 2 := by decide +kernel
def sX10_save : amS := (yX10_save, cX10_save, 2, none, [], 0, 0, 0, 0)
theorem np_X10_save : (parseMethodDescriptor (sy sX10_save).desc).map (fun d => d.parameters.length + 1) = some 1 := by decide +kernel
def sX10_undo : amS := (yX10_undo, cX10_undo, 2, (some .int), [], 0, 0, 0, 0)
theorem np_X10_undo : (parseMethodDescriptor (sy sX10_undo).desc).map (fun d => d.parameters.length + 1) = some 1 := by decide +kernel
def sX10_keepAside : amS := (yX10_keepAside, cX10_keepAside, 2, none, [], 0, 0, 0, 0)
theorem np_X10_keepAside : (parseMethodDescriptor (sy sX10_keepAside).desc).map (fun d => d.parameters.length + 1) = some 1 := by decide +kernel
def sX10_takeBack : amS := (yX10_takeBack, cX10_takeBack, 2, none, [], 0, 0, 0, 0)
theorem np_X10_takeBack : (parseMethodDescriptor (sy sX10_takeBack).desc).map (fun d => d.parameters.length + 1) = some 1 := by decide +kernel
def sX10_shape : amS := (yX10_shape, cX10_shape, 7, (some .int), [], 2, 42, 0, 0)
theorem np_X10_shape : (parseMethodDescriptor (sy sX10_shape).desc).map (fun d => d.parameters.length + 1) = some 4 := by decide +kernel
def sX10_moveGeneral : amS := (yX10_moveGeneral, cX10_moveGeneral, 4, (some .int), [], 2, 42, 0, 0)
theorem np_X10_moveGeneral : (parseMethodDescriptor (sy sX10_moveGeneral).desc).map (fun d => d.parameters.length + 1) = some 3 := by decide +kernel
def sX10_addTroop : amS := (yX10_addTroop, cX10_addTroop, 6, (some .int), [], 3, 66, 0, 0)
theorem np_X10_addTroop : (parseMethodDescriptor (sy sX10_addTroop).desc).map (fun d => d.parameters.length + 1) = some 4 := by decide +kernel
def sX10_orderTime : amS := (yX10_orderTime, cX10_orderTime, 5, (some .int), [], 5, 114, 0, 0)
theorem np_X10_orderTime : (parseMethodDescriptor (sy sX10_orderTime).desc).map (fun d => d.parameters.length + 1) = some 3 := by decide +kernel
def sX10_whyNot : amS := (yX10_whyNot, cX10_whyNot, 2, (some .int), [], 6, 138, 0, 0)
theorem np_X10_whyNot : (parseMethodDescriptor (sy sX10_whyNot).desc).map (fun d => d.parameters.length + 1) = some 2 := by decide +kernel
def sX10_give : amS := (yX10_give, cX10_give, 5, (some .int), [], 6, 138, 0, 0)
theorem np_X10_give : (parseMethodDescriptor (sy sX10_give).desc).map (fun d => d.parameters.length + 1) = some 3 := by decide +kernel
def sX10_order : amS := (yX10_order, cX10_order, 3, (some .int), [], 7, 162, 0, 0)
theorem np_X10_order : (parseMethodDescriptor (sy sX10_order).desc).map (fun d => d.parameters.length + 1) = some 3 := by decide +kernel
def sX10_come : amS := (yX10_come, cX10_come, 3, none, [], 1, 23, 0, 0)
theorem np_X10_come : (parseMethodDescriptor (sy sX10_come).desc).map (fun d => d.parameters.length + 1) = some 3 := by decide +kernel
def sX10_comeAll : amS := (yX10_comeAll, cX10_comeAll, 6, none, [], 2, 45, 0, 0)
theorem np_X10_comeAll : (parseMethodDescriptor (sy sX10_comeAll).desc).map (fun d => d.parameters.length + 1) = some 1 := by decide +kernel
def sX10_march : amS := (yX10_march, cX10_march, 7, none, [], 4, 92, 0, 0)
theorem np_X10_march : (parseMethodDescriptor (sy sX10_march).desc).map (fun d => d.parameters.length + 1) = some 2 := by decide +kernel
def sX10_loss : amS := (yX10_loss, cX10_loss, 6, (some .int), [], 3, 66, 0, 0)
theorem np_X10_loss : (parseMethodDescriptor (sy sX10_loss).desc).map (fun d => d.parameters.length + 1) = some 2 := by decide +kernel
def sX10_fight : amS := (yX10_fight, cX10_fight, 2, none, [], 4, 91, 0, 0)
theorem np_X10_fight : (parseMethodDescriptor (sy sX10_fight).desc).map (fun d => d.parameters.length + 1) = some 1 := by decide +kernel
def sX10_seesEnemy : amS := (yX10_seesEnemy, cX10_seesEnemy, 4, (some .boolean), [], 2, 53, 0, 0)
theorem np_X10_seesEnemy : (parseMethodDescriptor (sy sX10_seesEnemy).desc).map (fun d => d.parameters.length + 1) = some 2 := by decide +kernel
def sX10_settle : amS := (yX10_settle, cX10_settle, 2, none, [], 3, 76, 0, 0)
theorem np_X10_settle : (parseMethodDescriptor (sy sX10_settle).desc).map (fun d => d.parameters.length + 1) = some 2 := by decide +kernel
def sX10_passOne : amS := (yX10_passOne, cX10_passOne, 2, none, [], 5, 118, 0, 0)
theorem np_X10_passOne : (parseMethodDescriptor (sy sX10_passOne).desc).map (fun d => d.parameters.length + 1) = some 1 := by decide +kernel
def sX10_pass : amS := (yX10_pass, cX10_pass, 4, (some .int), [], 6, 139, 0, 0)
theorem np_X10_pass : (parseMethodDescriptor (sy sX10_pass).desc).map (fun d => d.parameters.length + 1) = some 2 := by decide +kernel
def sX10_append : amS := (yX10_append, cX10_append, 2, (some .int), [], 1, 22, 0, 0)
theorem np_X10_append : (parseMethodDescriptor (sy sX10_append).desc).map (fun d => d.parameters.length + 1) = some 2 := by decide +kernel
def sX10_clearBuffer : amS := (yX10_clearBuffer, cX10_clearBuffer, 2, (some .int), [], 0, 0, 0, 0)
theorem np_X10_clearBuffer : (parseMethodDescriptor (sy sX10_clearBuffer).desc).map (fun d => d.parameters.length + 1) = some 1 := by decide +kernel
def sX10_takesDigit : amS := (yX10_takesDigit, cX10_takesDigit, 5, (some .boolean), [], 0, 0, 0, 0)
theorem np_X10_takesDigit : (parseMethodDescriptor (sy sX10_takesDigit).desc).map (fun d => d.parameters.length + 1) = some 2 := by decide +kernel
def sX10_takes : amS := (yX10_takes, cX10_takes, 3, (some .boolean), [], 1, 24, 0, 0)
theorem np_X10_takes : (parseMethodDescriptor (sy sX10_takes).desc).map (fun d => d.parameters.length + 1) = some 2 := by decide +kernel
def sX10_readText : amS := (yX10_readText, cX10_readText, 2, (some .int), [], 2, 46, 0, 0)
theorem np_X10_readText : (parseMethodDescriptor (sy sX10_readText).desc).map (fun d => d.parameters.length + 1) = some 1 := by decide +kernel
def sX10_firstError : amS := (yX10_firstError, cX10_firstError, 1, (some .int), [], 3, 67, 0, 0)
theorem np_X10_firstError : (parseMethodDescriptor (sy sX10_firstError).desc).map (fun d => d.parameters.length + 1) = some 1 := by decide +kernel
def sX10_load : amS := (yX10_load, cX10_load, 3, (some .int), [], 7, 162, 0, 0)
theorem np_X10_load : (parseMethodDescriptor (sy sX10_load).desc).map (fun d => d.parameters.length + 1) = some 1 := by decide +kernel
def sX10_steps : amS := (yX10_steps, cX10_steps, 4, (some .int), [], 2, 45, 0, 0)
theorem np_X10_steps : (parseMethodDescriptor (sy sX10_steps).desc).map (fun d => d.parameters.length + 1) = some 2 := by decide +kernel
def sX10_cellNow : amS := (yX10_cellNow, cX10_cellNow, 3, (some .int), [], 3, 76, 0, 0)
theorem np_X10_cellNow : (parseMethodDescriptor (sy sX10_cellNow).desc).map (fun d => d.parameters.length + 1) = some 3 := by decide +kernel
def sX10_cell : amS := (yX10_cell, cX10_cell, 3, (some .int), [], 4, 98, 0, 0)
theorem np_X10_cell : (parseMethodDescriptor (sy sX10_cell).desc).map (fun d => d.parameters.length + 1) = some 3 := by decide +kernel
def sX10_ordersFor : amS := (yX10_ordersFor, cX10_ordersFor, 4, (some .int), [], 0, 0, 0, 0)
theorem np_X10_ordersFor : (parseMethodDescriptor (sy sX10_ordersFor).desc).map (fun d => d.parameters.length + 1) = some 2 := by decide +kernel
def sX10_troopNow : amS := (yX10_troopNow, cX10_troopNow, 3, (some .int), [], 1, 23, 0, 0)
theorem np_X10_troopNow : (parseMethodDescriptor (sy sX10_troopNow).desc).map (fun d => d.parameters.length + 1) = some 3 := by decide +kernel
def sX10_troop : amS := (yX10_troop, cX10_troop, 3, (some .int), [], 2, 45, 0, 0)
theorem np_X10_troop : (parseMethodDescriptor (sy sX10_troop).desc).map (fun d => d.parameters.length + 1) = some 3 := by decide +kernel
def sX10_rank : amS := (yX10_rank, cX10_rank, 5, (some .int), [], 0, 0, 0, 0)
theorem np_X10_rank : (parseMethodDescriptor (sy sX10_rank).desc).map (fun d => d.parameters.length + 1) = some 2 := by decide +kernel
def sX10_underWayNow : amS := (yX10_underWayNow, cX10_underWayNow, 4, (some .int), [], 1, 24, 0, 0)
theorem np_X10_underWayNow : (parseMethodDescriptor (sy sX10_underWayNow).desc).map (fun d => d.parameters.length + 1) = some 3 := by decide +kernel
def sX10_underWay : amS := (yX10_underWay, cX10_underWay, 3, (some .int), [], 2, 47, 0, 0)
theorem np_X10_underWay : (parseMethodDescriptor (sy sX10_underWay).desc).map (fun d => d.parameters.length + 1) = some 3 := by decide +kernel
def sX10_inState : amS := (yX10_inState, cX10_inState, 4, (some .int), [], 1, 22, 0, 0)
theorem np_X10_inState : (parseMethodDescriptor (sy sX10_inState).desc).map (fun d => d.parameters.length + 1) = some 2 := by decide +kernel
def sX10_strengthOf : amS := (yX10_strengthOf, cX10_strengthOf, 4, (some .int), [], 1, 22, 0, 0)
theorem np_X10_strengthOf : (parseMethodDescriptor (sy sX10_strengthOf).desc).map (fun d => d.parameters.length + 1) = some 2 := by decide +kernel
def sX10_counted : amS := (yX10_counted, cX10_counted, 2, (some .int), [], 2, 45, 0, 0)
theorem np_X10_counted : (parseMethodDescriptor (sy sX10_counted).desc).map (fun d => d.parameters.length + 1) = some 2 := by decide +kernel
def sX10_count : amS := (yX10_count, cX10_count, 2, (some .int), [], 3, 66, 0, 0)
theorem np_X10_count : (parseMethodDescriptor (sy sX10_count).desc).map (fun d => d.parameters.length + 1) = some 2 := by decide +kernel
def sX10_sees : amS := (yX10_sees, cX10_sees, 3, (some .boolean), [], 2, 53, 0, 0)
theorem np_X10_sees : (parseMethodDescriptor (sy sX10_sees).desc).map (fun d => d.parameters.length + 1) = some 3 := by decide +kernel
def sX10_distance : amS := (yX10_distance, cX10_distance, 3, (some .int), [], 5, 114, 0, 0)
theorem np_X10_distance : (parseMethodDescriptor (sy sX10_distance).desc).map (fun d => d.parameters.length + 1) = some 3 := by decide +kernel
def sX10_why : amS := (yX10_why, cX10_why, 2, (some .int), [], 7, 159, 0, 0)
theorem np_X10_why : (parseMethodDescriptor (sy sX10_why).desc).map (fun d => d.parameters.length + 1) = some 2 := by decide +kernel
def sX10_timesFrom : amS := (yX10_timesFrom, cX10_timesFrom, 6, (some .int), [], 4, 92, 0, 0)
theorem np_X10_timesFrom : (parseMethodDescriptor (sy sX10_timesFrom).desc).map (fun d => d.parameters.length + 1) = some 3 := by decide +kernel
def sX10_bestPost : amS := (yX10_bestPost, cX10_bestPost, 6, (some .int), [], 5, 117, 0, 0)
theorem np_X10_bestPost : (parseMethodDescriptor (sy sX10_bestPost).desc).map (fun d => d.parameters.length + 1) = some 2 := by decide +kernel
def sX10_passed : amS := (yX10_passed, cX10_passed, 4, (some .int), [], 6, 139, 0, 0)
theorem np_X10_passed : (parseMethodDescriptor (sy sX10_passed).desc).map (fun d => d.parameters.length + 1) = some 3 := by decide +kernel
def sX10_ifPassed : amS := (yX10_ifPassed, cX10_ifPassed, 4, (some .int), [], 7, 162, 0, 0)
theorem np_X10_ifPassed : (parseMethodDescriptor (sy sX10_ifPassed).desc).map (fun d => d.parameters.length + 1) = some 3 := by decide +kernel
def sX10_isAtGoal : amS := (yX10_isAtGoal, cX10_isAtGoal, 2, (some .boolean), [], 2, 43, 0, 0)
theorem np_X10_isAtGoal : (parseMethodDescriptor (sy sX10_isAtGoal).desc).map (fun d => d.parameters.length + 1) = some 2 := by decide +kernel
def sX10_arrivesIn : amS := (yX10_arrivesIn, cX10_arrivesIn, 3, (some .int), [], 6, 139, 0, 0)
theorem np_X10_arrivesIn : (parseMethodDescriptor (sy sX10_arrivesIn).desc).map (fun d => d.parameters.length + 1) = some 2 := by decide +kernel
def sX10_leftNow : amS := (yX10_leftNow, cX10_leftNow, 3, (some .double), [], 2, 45, 0, 0)
theorem np_X10_leftNow : (parseMethodDescriptor (sy sX10_leftNow).desc).map (fun d => d.parameters.length + 1) = some 1 := by decide +kernel
def sX10_strengthLeft : amS := (yX10_strengthLeft, cX10_strengthLeft, 1, (some .double), [], 3, 67, 0, 0)
theorem np_X10_strengthLeft : (parseMethodDescriptor (sy sX10_strengthLeft).desc).map (fun d => d.parameters.length + 1) = some 1 := by decide +kernel
def sX10_mix : amS := (yX10_mix, cX10_mix, 3, none, [], 0, 0, 0, 0)
theorem np_X10_mix : (parseMethodDescriptor (sy sX10_mix).desc).map (fun d => d.parameters.length + 1) = some 2 := by decide +kernel
def sX10_mixAll : amS := (yX10_mixAll, cX10_mixAll, 3, none, [], 7, 159, 0, 0)
theorem np_X10_mixAll : (parseMethodDescriptor (sy sX10_mixAll).desc).map (fun d => d.parameters.length + 1) = some 1 := by decide +kernel
def sJxe99ae_isNaN_b9ae7 : amS := (yJxe99ae_isNaN_b9ae7, cJxe99ae_isNaN_b9ae7, 2, (some .boolean), [], 0, 0, 0, 0)
theorem np_Jxe99ae_isNaN_b9ae7 : (parseMethodDescriptor (sy sJxe99ae_isNaN_b9ae7).desc).map (fun d => d.parameters.length) = some 1 := by decide +kernel
def sJxe99ae_doubleToLongBits_ccdee : amS := (yJxe99ae_doubleToLongBits_ccdee, cJxe99ae_doubleToLongBits_ccdee, 2, (some .long), [], 1, 40, 0, 0)
theorem np_Jxe99ae_doubleToLongBits_ccdee : (parseMethodDescriptor (sy sJxe99ae_doubleToLongBits_ccdee).desc).map (fun d => d.parameters.length) = some 1 := by decide +kernel
def sX10_digest : amS := (yX10_digest, cX10_digest, 2, (some .long), [], 8, 181, 0, 0)
theorem np_X10_digest : (parseMethodDescriptor (sy sX10_digest).desc).map (fun d => d.parameters.length + 1) = some 1 := by decide +kernel
def sL_shape : amS := (yL_shape, cL_shape, 6, (some .int), [(0, 12, 15, 13), (0, 12, 19, 15)], 8, 211, 3, 18)
theorem np_L_shape : (parseMethodDescriptor (sy sL_shape).desc).map (fun d => d.parameters.length) = some 5 := by decide +kernel
def sL_moveGeneral : amS := (yL_moveGeneral, cL_moveGeneral, 5, (some .int), [(0, 10, 13, 13)], 8, 211, 2, 12)
theorem np_L_moveGeneral : (parseMethodDescriptor (sy sL_moveGeneral).desc).map (fun d => d.parameters.length) = some 4 := by decide +kernel
def sL_addTroop : amS := (yL_addTroop, cL_addTroop, 6, (some .int), [(0, 12, 15, 13), (0, 12, 19, 15), (0, 12, 23, 24)], 8, 211, 3, 18)
theorem np_L_addTroop : (parseMethodDescriptor (sy sL_addTroop).desc).map (fun d => d.parameters.length) = some 5 := by decide +kernel
def sL_order : amS := (yL_order, cL_order, 5, (some .int), [(0, 10, 13, 13), (0, 10, 17, 24)], 8, 211, 3, 18)
theorem np_L_order : (parseMethodDescriptor (sy sL_order).desc).map (fun d => d.parameters.length) = some 4 := by decide +kernel
def sL_pass : amS := (yL_pass, cL_pass, 4, (some .int), [(0, 9, 12, 15), (0, 9, 15, 24)], 8, 210, 2, 12)
theorem np_L_pass : (parseMethodDescriptor (sy sL_pass).desc).map (fun d => d.parameters.length) = some 3 := by decide +kernel
def sL_append : amS := (yL_append, cL_append, 4, (some .int), [(0, 9, 12, 15), (0, 9, 15, 24)], 7, 189, 1, 6)
theorem np_L_append : (parseMethodDescriptor (sy sL_append).desc).map (fun d => d.parameters.length) = some 3 := by decide +kernel
def sL_load : amS := (yL_load, cL_load, 3, (some .int), [(0, 8, 11, 15)], 7, 190, 1, 6)
theorem np_L_load : (parseMethodDescriptor (sy sL_load).desc).map (fun d => d.parameters.length) = some 2 := by decide +kernel
def sL_undo : amS := (yL_undo, cL_undo, 3, (some .int), [(0, 8, 11, 24)], 7, 188, 1, 6)
theorem np_L_undo : (parseMethodDescriptor (sy sL_undo).desc).map (fun d => d.parameters.length) = some 2 := by decide +kernel
def sL_cell : amS := (yL_cell, cL_cell, 5, (some .int), [(0, 10, 13, 13), (0, 10, 17, 15)], 8, 211, 2, 12)
theorem np_L_cell : (parseMethodDescriptor (sy sL_cell).desc).map (fun d => d.parameters.length) = some 4 := by decide +kernel
def sL_troop : amS := (yL_troop, cL_troop, 5, (some .int), [(0, 10, 13, 13), (0, 10, 17, 15)], 8, 211, 2, 12)
theorem np_L_troop : (parseMethodDescriptor (sy sL_troop).desc).map (fun d => d.parameters.length) = some 4 := by decide +kernel
def sL_underWay : amS := (yL_underWay, cL_underWay, 5, (some .int), [(0, 10, 13, 13), (0, 10, 17, 15)], 8, 211, 2, 12)
theorem np_L_underWay : (parseMethodDescriptor (sy sL_underWay).desc).map (fun d => d.parameters.length) = some 4 := by decide +kernel
def sL_count : amS := (yL_count, cL_count, 4, (some .int), [(0, 9, 12, 15)], 8, 210, 1, 6)
theorem np_L_count : (parseMethodDescriptor (sy sL_count).desc).map (fun d => d.parameters.length) = some 3 := by decide +kernel
def sL_sees : amS := (yL_sees, cL_sees, 5, (some .int), [(0, 17, 20, 13)], 8, 210, 2, 12)
theorem np_L_sees : (parseMethodDescriptor (sy sL_sees).desc).map (fun d => d.parameters.length) = some 4 := by decide +kernel
def sL_distance : amS := (yL_distance, cL_distance, 5, (some .int), [(0, 10, 13, 13)], 8, 210, 2, 12)
theorem np_L_distance : (parseMethodDescriptor (sy sL_distance).desc).map (fun d => d.parameters.length) = some 4 := by decide +kernel
def sL_why : amS := (yL_why, cL_why, 4, (some .int), [(0, 9, 12, 13)], 8, 210, 1, 6)
theorem np_L_why : (parseMethodDescriptor (sy sL_why).desc).map (fun d => d.parameters.length) = some 3 := by decide +kernel
def sL_bestPost : amS := (yL_bestPost, cL_bestPost, 4, (some .int), [(0, 9, 12, 13)], 8, 209, 1, 6)
theorem np_L_bestPost : (parseMethodDescriptor (sy sL_bestPost).desc).map (fun d => d.parameters.length) = some 3 := by decide +kernel
def sL_ifPassed : amS := (yL_ifPassed, cL_ifPassed, 5, (some .int), [(0, 10, 13, 15)], 8, 210, 2, 12)
theorem np_L_ifPassed : (parseMethodDescriptor (sy sL_ifPassed).desc).map (fun d => d.parameters.length) = some 4 := by decide +kernel
def sL_arrivesIn : amS := (yL_arrivesIn, cL_arrivesIn, 4, (some .int), [(0, 9, 12, 13)], 8, 212, 1, 6)
theorem np_L_arrivesIn : (parseMethodDescriptor (sy sL_arrivesIn).desc).map (fun d => d.parameters.length) = some 3 := by decide +kernel
def sL_law : amS := ((⟨"CourierWarLaw", "law", "([I)Z"⟩ : MethodName), cL_law, 9, (some .boolean), [], 9, 236, 601024, 7293034)
theorem thA_0 : ∀ w ∈ vx_atS RX9 185 (amEx 0) ["java/lang/RuntimeException", "java/lang/Exception"], w ∈ lw_tbl ∧ w.onTables = true := by decide +kernel
theorem thG_0 : ∀ w ∈ Cond.classLink RX9 181 (amEx 0) :: Cond.initialized (amEx 0) :: vx_atS RX9 185 (amEx 0) ["java/lang/RuntimeException", "java/lang/Exception"], vx_ot w = true := by decide +kernel
theorem thA_1 : ∀ w ∈ vx_atS RX9 55 (amEx 1) ["java/lang/RuntimeException", "java/lang/Exception"], w ∈ lw_tbl ∧ w.onTables = true := by decide +kernel
theorem thG_1 : ∀ w ∈ Cond.classLink RX9 51 (amEx 1) :: Cond.initialized (amEx 1) :: vx_atS RX9 55 (amEx 1) ["java/lang/RuntimeException", "java/lang/Exception"], vx_ot w = true := by decide +kernel
theorem thA_2 : ∀ w ∈ vx_atS RX9 95 (amEx 2) ["java/lang/RuntimeException", "java/lang/Exception"], w ∈ lw_tbl ∧ w.onTables = true := by decide +kernel
theorem thG_2 : ∀ w ∈ Cond.classLink RX9 91 (amEx 2) :: Cond.initialized (amEx 2) :: vx_atS RX9 95 (amEx 2) ["java/lang/RuntimeException", "java/lang/Exception"], vx_ot w = true := by decide +kernel
theorem ok_newO {M : amM} {pc idx len ci N a3 : Nat} {S : Option amS} {C : String} {T : u_T} (h : ci < 100) (hl : len = 3) (h1 : vwCl[ci]? = some (C, T, N)) (w1 : Cond.classLink M.2.1 idx C ∈ lw_tbl) (w2 : Cond.instantiable C N ∈ lw_tbl) (w3 : Cond.initialized C ∈ lw_tbl) : amOk1 M (pc, .new idx, len, (ci, N, a3), S) := by
  show if ci < 100 then _ else _
  rw [if_pos h]
  exact ⟨hl, C, T, h1, w1, w2, w3⟩
theorem ok_newT {M : amM} {pc idx len a b c : Nat} {S : Option amS} (h : ¬ a < 100) (hl : len = 3) (ht : amThr M pc idx (a - 100)) : amOk1 M (pc, .new idx, len, (a, b, c), S) := by
  show if a < 100 then _ else _
  rw [if_neg h]
  exact ⟨hl, ht⟩
theorem am_lookup {β : Type} {P : Nat → β → Prop} : ∀ (bs : List (Nat × β)), (∀ q ∈ bs, P q.1 q.2) → ∀ (t : Nat) (l : β), bs.lookup t = some l → P t l := by
  intro bs
  induction bs with
  | nil => intro _ t l h; cases h
  | cons b bs ih =>
    intro hb t l h
    obtain ⟨t0, l0⟩ := b
    rw [List.lookup_cons] at h
    cases he : (t == t0) with
    | true =>
      rw [he] at h
      have e1 : t = t0 := by simpa using he
      cases h
      rw [e1]
      exact hb _ List.mem_cons_self
    | false =>
      rw [he] at h
      exact ih (fun q hq => hb q (List.mem_cons_of_mem _ hq)) t l h
theorem am_tab0 {M : amM} (h : sh M.1 = []) : amTab M := by
  refine ⟨?_, fun i q k hq => ?_⟩
  · unfold amHk
    rw [h]; rfl
  · rw [h] at hq; cases hq

abbrev kX0_isThere : Cond := .code yX0_isThere cX0_isThere 1 (some .boolean)
theorem fd_X0_isThere : yX0_isThere.cls = RX0 ∧ yX0_isThere.cls ≠ "java/lang/invoke/MethodHandle" ∧ yX0_isThere.cls ≠ "java/lang/invoke/VarHandle" ∧ (parseMethodDescriptor yX0_isThere.desc).map (fun d => d.parameters.length) = some 0 := by decide +kernel
abbrev kX0_isPerson : Cond := .code yX0_isPerson cX0_isPerson 2 (some .boolean)
theorem fd_X0_isPerson : yX0_isPerson.cls = RX0 ∧ yX0_isPerson.cls ≠ "java/lang/invoke/MethodHandle" ∧ yX0_isPerson.cls ≠ "java/lang/invoke/VarHandle" ∧ (parseMethodDescriptor yX0_isPerson.desc).map (fun d => d.parameters.length) = some 1 := by decide +kernel
abbrev kX0_isPair : Cond := .code yX0_isPair cX0_isPair 3 (some .boolean)
theorem fd_X0_isPair : yX0_isPair.cls = RX0 ∧ yX0_isPair.cls ≠ "java/lang/invoke/MethodHandle" ∧ yX0_isPair.cls ≠ "java/lang/invoke/VarHandle" ∧ (parseMethodDescriptor yX0_isPair.desc).map (fun d => d.parameters.length) = some 2 := by decide +kernel
abbrev kX0_everybody : Cond := .code yX0_everybody cX0_everybody 1 (some .int)
theorem fd_X0_everybody : yX0_everybody.cls = RX0 ∧ yX0_everybody.cls ≠ "java/lang/invoke/MethodHandle" ∧ yX0_everybody.cls ≠ "java/lang/invoke/VarHandle" ∧ (parseMethodDescriptor yX0_everybody.desc).map (fun d => d.parameters.length) = some 0 := by decide +kernel
abbrev kX0_isLoad : Cond := .code yX0_isLoad cX0_isLoad 2 (some .boolean)
theorem fd_X0_isLoad : yX0_isLoad.cls = RX0 ∧ yX0_isLoad.cls ≠ "java/lang/invoke/MethodHandle" ∧ yX0_isLoad.cls ≠ "java/lang/invoke/VarHandle" ∧ (parseMethodDescriptor yX0_isLoad.desc).map (fun d => d.parameters.length) = some 1 := by decide +kernel
abbrev kX2_kindOf : Cond := .code yX2_kindOf cX2_kindOf 1 (some .int)
theorem fd_X2_kindOf : yX2_kindOf.cls ≠ "java/lang/invoke/MethodHandle" ∧ yX2_kindOf.cls ≠ "java/lang/invoke/VarHandle" ∧ (parseMethodDescriptor yX2_kindOf.desc).map (fun d => d.parameters.length) = some 1 := by decide +kernel
abbrev kX0_takeText : Cond := .code yX0_takeText cX0_takeText 6 none
theorem fd_X0_takeText : yX0_takeText.cls = RX0 ∧ yX0_takeText.cls ≠ "java/lang/invoke/MethodHandle" ∧ yX0_takeText.cls ≠ "java/lang/invoke/VarHandle" ∧ (parseMethodDescriptor yX0_takeText.desc).map (fun d => d.parameters.length) = some 2 := by decide +kernel
abbrev kX0_allNotes : Cond := .code yX0_allNotes cX0_allNotes 4 (some .int)
theorem fd_X0_allNotes : yX0_allNotes.cls = RX0 ∧ yX0_allNotes.cls ≠ "java/lang/invoke/MethodHandle" ∧ yX0_allNotes.cls ≠ "java/lang/invoke/VarHandle" ∧ (parseMethodDescriptor yX0_allNotes.desc).map (fun d => d.parameters.length) = some 1 := by decide +kernel
abbrev kX0_debtIf : Cond := .code yX0_debtIf cX0_debtIf 6 (some .int)
theorem fd_X0_debtIf : yX0_debtIf.cls = RX0 ∧ yX0_debtIf.cls ≠ "java/lang/invoke/MethodHandle" ∧ yX0_debtIf.cls ≠ "java/lang/invoke/VarHandle" ∧ (parseMethodDescriptor yX0_debtIf.desc).map (fun d => d.parameters.length) = some 3 := by decide +kernel
abbrev kX0_pullersIf : Cond := .code yX0_pullersIf cX0_pullersIf 9 (some .int)
theorem fd_X0_pullersIf : yX0_pullersIf.cls = RX0 ∧ yX0_pullersIf.cls ≠ "java/lang/invoke/MethodHandle" ∧ yX0_pullersIf.cls ≠ "java/lang/invoke/VarHandle" ∧ (parseMethodDescriptor yX0_pullersIf.desc).map (fun d => d.parameters.length) = some 3 := by decide +kernel
abbrev kX0_pullersOf : Cond := .code yX0_pullersOf cX0_pullersOf 2 (some .int)
theorem fd_X0_pullersOf : yX0_pullersOf.cls = RX0 ∧ yX0_pullersOf.cls ≠ "java/lang/invoke/MethodHandle" ∧ yX0_pullersOf.cls ≠ "java/lang/invoke/VarHandle" ∧ (parseMethodDescriptor yX0_pullersOf.desc).map (fun d => d.parameters.length) = some 1 := by decide +kernel
abbrev kJ6_bitCount_0f7a4 : Cond := .code yJ6_bitCount_0f7a4 cJ6_bitCount_0f7a4 1 (some .int)
theorem fd_J6_bitCount_0f7a4 : yJ6_bitCount_0f7a4.cls ≠ "java/lang/invoke/MethodHandle" ∧ yJ6_bitCount_0f7a4.cls ≠ "java/lang/invoke/VarHandle" ∧ (parseMethodDescriptor yJ6_bitCount_0f7a4.desc).map (fun d => d.parameters.length) = some 1 := by decide +kernel
abbrev kX0_isFair : Cond := .code yX0_isFair cX0_isFair 3 (some .boolean)
theorem fd_X0_isFair : yX0_isFair.cls = RX0 ∧ yX0_isFair.cls ≠ "java/lang/invoke/MethodHandle" ∧ yX0_isFair.cls ≠ "java/lang/invoke/VarHandle" ∧ (parseMethodDescriptor yX0_isFair.desc).map (fun d => d.parameters.length) = some 1 := by decide +kernel
abbrev kX0_areLoads : Cond := .code yX0_areLoads cX0_areLoads 5 (some .boolean)
theorem fd_X0_areLoads : yX0_areLoads.cls = RX0 ∧ yX0_areLoads.cls ≠ "java/lang/invoke/MethodHandle" ∧ yX0_areLoads.cls ≠ "java/lang/invoke/VarHandle" ∧ (parseMethodDescriptor yX0_areLoads.desc).map (fun d => d.parameters.length) = some 3 := by decide +kernel
abbrev kX0_firstWrong : Cond := .code yX0_firstWrong cX0_firstWrong 7 (some .int)
theorem fd_X0_firstWrong : yX0_firstWrong.cls = RX0 ∧ yX0_firstWrong.cls ≠ "java/lang/invoke/MethodHandle" ∧ yX0_firstWrong.cls ≠ "java/lang/invoke/VarHandle" ∧ (parseMethodDescriptor yX0_firstWrong.desc).map (fun d => d.parameters.length) = some 3 := by decide +kernel
abbrev kX0_isSo : Cond := .code yX0_isSo cX0_isSo 3 (some .boolean)
theorem fd_X0_isSo : yX0_isSo.cls = RX0 ∧ yX0_isSo.cls ≠ "java/lang/invoke/MethodHandle" ∧ yX0_isSo.cls ≠ "java/lang/invoke/VarHandle" ∧ (parseMethodDescriptor yX0_isSo.desc).map (fun d => d.parameters.length) = some 2 := by decide +kernel
abbrev kX0_canCrossBy : Cond := .code yX0_canCrossBy cX0_canCrossBy 3 (some .boolean)
theorem fd_X0_canCrossBy : yX0_canCrossBy.cls = RX0 ∧ yX0_canCrossBy.cls ≠ "java/lang/invoke/MethodHandle" ∧ yX0_canCrossBy.cls ≠ "java/lang/invoke/VarHandle" ∧ (parseMethodDescriptor yX0_canCrossBy.desc).map (fun d => d.parameters.length) = some 2 := by decide +kernel
abbrev kX0_findFewest : Cond := .code yX0_findFewest cX0_findFewest 5 none
theorem fd_X0_findFewest : yX0_findFewest.cls = RX0 ∧ yX0_findFewest.cls ≠ "java/lang/invoke/MethodHandle" ∧ yX0_findFewest.cls ≠ "java/lang/invoke/VarHandle" ∧ (parseMethodDescriptor yX0_findFewest.desc).map (fun d => d.parameters.length) = some 0 := by decide +kernel
abbrev kX0_firstLoadOf : Cond := .code yX0_firstLoadOf cX0_firstLoadOf 3 (some .int)
theorem fd_X0_firstLoadOf : yX0_firstLoadOf.cls = RX0 ∧ yX0_firstLoadOf.cls ≠ "java/lang/invoke/MethodHandle" ∧ yX0_firstLoadOf.cls ≠ "java/lang/invoke/VarHandle" ∧ (parseMethodDescriptor yX0_firstLoadOf.desc).map (fun d => d.parameters.length) = some 1 := by decide +kernel
abbrev kX0_loadOfCross : Cond := .code yX0_loadOfCross cX0_loadOfCross 5 (some .int)
theorem fd_X0_loadOfCross : yX0_loadOfCross.cls = RX0 ∧ yX0_loadOfCross.cls ≠ "java/lang/invoke/MethodHandle" ∧ yX0_loadOfCross.cls ≠ "java/lang/invoke/VarHandle" ∧ (parseMethodDescriptor yX0_loadOfCross.desc).map (fun d => d.parameters.length) = some 1 := by decide +kernel
abbrev kX0_lenderOf : Cond := .code yX0_lenderOf cX0_lenderOf 7 (some .int)
theorem fd_X0_lenderOf : yX0_lenderOf.cls = RX0 ∧ yX0_lenderOf.cls ≠ "java/lang/invoke/MethodHandle" ∧ yX0_lenderOf.cls ≠ "java/lang/invoke/VarHandle" ∧ (parseMethodDescriptor yX0_lenderOf.desc).map (fun d => d.parameters.length) = some 3 := by decide +kernel
abbrev kX0_areReadingsSo : Cond := .code yX0_areReadingsSo cX0_areReadingsSo 2 (some .boolean)
theorem fd_X0_areReadingsSo : yX0_areReadingsSo.cls = RX0 ∧ yX0_areReadingsSo.cls ≠ "java/lang/invoke/MethodHandle" ∧ yX0_areReadingsSo.cls ≠ "java/lang/invoke/VarHandle" ∧ (parseMethodDescriptor yX0_areReadingsSo.desc).map (fun d => d.parameters.length) = some 0 := by decide +kernel
abbrev kX0_notesThatFit : Cond := .code yX0_notesThatFit cX0_notesThatFit 6 (some .int)
theorem fd_X0_notesThatFit : yX0_notesThatFit.cls = RX0 ∧ yX0_notesThatFit.cls ≠ "java/lang/invoke/MethodHandle" ∧ yX0_notesThatFit.cls ≠ "java/lang/invoke/VarHandle" ∧ (parseMethodDescriptor yX0_notesThatFit.desc).map (fun d => d.parameters.length) = some 2 := by decide +kernel
abbrev kX0_kindsThatFit : Cond := .code yX0_kindsThatFit cX0_kindsThatFit 5 (some .int)
theorem fd_X0_kindsThatFit : yX0_kindsThatFit.cls = RX0 ∧ yX0_kindsThatFit.cls ≠ "java/lang/invoke/MethodHandle" ∧ yX0_kindsThatFit.cls ≠ "java/lang/invoke/VarHandle" ∧ (parseMethodDescriptor yX0_kindsThatFit.desc).map (fun d => d.parameters.length) = some 1 := by decide +kernel
abbrev kX0_timesThatFit : Cond := .code yX0_timesThatFit cX0_timesThatFit 4 (some .int)
theorem fd_X0_timesThatFit : yX0_timesThatFit.cls = RX0 ∧ yX0_timesThatFit.cls ≠ "java/lang/invoke/MethodHandle" ∧ yX0_timesThatFit.cls ≠ "java/lang/invoke/VarHandle" ∧ (parseMethodDescriptor yX0_timesThatFit.desc).map (fun d => d.parameters.length) = some 0 := by decide +kernel
abbrev kX0_wetSetsWithPuller : Cond := .code yX0_wetSetsWithPuller cX0_wetSetsWithPuller 6 (some .int)
theorem fd_X0_wetSetsWithPuller : yX0_wetSetsWithPuller.cls = RX0 ∧ yX0_wetSetsWithPuller.cls ≠ "java/lang/invoke/MethodHandle" ∧ yX0_wetSetsWithPuller.cls ≠ "java/lang/invoke/VarHandle" ∧ (parseMethodDescriptor yX0_wetSetsWithPuller.desc).map (fun d => d.parameters.length) = some 2 := by decide +kernel
abbrev kX1_startRow : Cond := .code yX1_startRow cX1_startRow 4 none
theorem fd_X1_startRow : yX1_startRow.cls = RX1 ∧ yX1_startRow.cls ≠ "java/lang/invoke/MethodHandle" ∧ yX1_startRow.cls ≠ "java/lang/invoke/VarHandle" ∧ (parseMethodDescriptor yX1_startRow.desc).map (fun d => d.parameters.length) = some 2 := by decide +kernel
abbrev kX1_faultAs : Cond := .code yX1_faultAs cX1_faultAs 2 (some .int)
theorem fd_X1_faultAs : yX1_faultAs.cls = RX1 ∧ yX1_faultAs.cls ≠ "java/lang/invoke/MethodHandle" ∧ yX1_faultAs.cls ≠ "java/lang/invoke/VarHandle" ∧ (parseMethodDescriptor yX1_faultAs.desc).map (fun d => d.parameters.length) = some 1 := by decide +kernel
abbrev kX1_hasCell : Cond := .code yX1_hasCell cX1_hasCell 2 (some .boolean)
theorem fd_X1_hasCell : yX1_hasCell.cls = RX1 ∧ yX1_hasCell.cls ≠ "java/lang/invoke/MethodHandle" ∧ yX1_hasCell.cls ≠ "java/lang/invoke/VarHandle" ∧ (parseMethodDescriptor yX1_hasCell.desc).map (fun d => d.parameters.length) = some 1 := by decide +kernel
abbrev kX1_hasCells : Cond := .code yX1_hasCells cX1_hasCells 3 (some .boolean)
theorem fd_X1_hasCells : yX1_hasCells.cls = RX1 ∧ yX1_hasCells.cls ≠ "java/lang/invoke/MethodHandle" ∧ yX1_hasCells.cls ≠ "java/lang/invoke/VarHandle" ∧ (parseMethodDescriptor yX1_hasCells.desc).map (fun d => d.parameters.length) = some 2 := by decide +kernel
abbrev kX1_store : Cond := .code yX1_store cX1_store 3 none
theorem fd_X1_store : yX1_store.cls = RX1 ∧ yX1_store.cls ≠ "java/lang/invoke/MethodHandle" ∧ yX1_store.cls ≠ "java/lang/invoke/VarHandle" ∧ (parseMethodDescriptor yX1_store.desc).map (fun d => d.parameters.length) = some 2 := by decide +kernel
abbrev kX2_isDigit : Cond := .code yX2_isDigit cX2_isDigit 3 (some .boolean)
theorem fd_X2_isDigit : yX2_isDigit.cls ≠ "java/lang/invoke/MethodHandle" ∧ yX2_isDigit.cls ≠ "java/lang/invoke/VarHandle" ∧ (parseMethodDescriptor yX2_isDigit.desc).map (fun d => d.parameters.length) = some 3 := by decide +kernel
abbrev kX2_goesOnInPerson : Cond := .code yX2_goesOnInPerson cX2_goesOnInPerson 6 (some .boolean)
theorem fd_X2_goesOnInPerson : yX2_goesOnInPerson.cls ≠ "java/lang/invoke/MethodHandle" ∧ yX2_goesOnInPerson.cls ≠ "java/lang/invoke/VarHandle" ∧ (parseMethodDescriptor yX2_goesOnInPerson.desc).map (fun d => d.parameters.length) = some 3 := by decide +kernel
abbrev kX2_goesOn : Cond := .code yX2_goesOn cX2_goesOn 3 (some .boolean)
theorem fd_X2_goesOn : yX2_goesOn.cls ≠ "java/lang/invoke/MethodHandle" ∧ yX2_goesOn.cls ≠ "java/lang/invoke/VarHandle" ∧ (parseMethodDescriptor yX2_goesOn.desc).map (fun d => d.parameters.length) = some 3 := by decide +kernel
abbrev kX2_firstFault : Cond := .code yX2_firstFault cX2_firstFault 7 (some .int)
theorem fd_X2_firstFault : yX2_firstFault.cls ≠ "java/lang/invoke/MethodHandle" ∧ yX2_firstFault.cls ≠ "java/lang/invoke/VarHandle" ∧ (parseMethodDescriptor yX2_firstFault.desc).map (fun d => d.parameters.length) = some 3 := by decide +kernel
abbrev kX3_isSheet : Cond := .code yX3_isSheet cX3_isSheet 1 (some .boolean)
theorem fd_X3_isSheet : yX3_isSheet.cls ≠ "java/lang/invoke/MethodHandle" ∧ yX3_isSheet.cls ≠ "java/lang/invoke/VarHandle" ∧ (parseMethodDescriptor yX3_isSheet.desc).map (fun d => d.parameters.length) = some 1 := by decide +kernel
abbrev kX3_isLane : Cond := .code yX3_isLane cX3_isLane 1 (some .boolean)
theorem fd_X3_isLane : yX3_isLane.cls ≠ "java/lang/invoke/MethodHandle" ∧ yX3_isLane.cls ≠ "java/lang/invoke/VarHandle" ∧ (parseMethodDescriptor yX3_isLane.desc).map (fun d => d.parameters.length) = some 1 := by decide +kernel
abbrev kX3_faulted : Cond := .code yX3_faulted cX3_faulted 2 (some .int)
theorem fd_X3_faulted : yX3_faulted.cls = RX3 ∧ yX3_faulted.cls ≠ "java/lang/invoke/MethodHandle" ∧ yX3_faulted.cls ≠ "java/lang/invoke/VarHandle" ∧ (parseMethodDescriptor yX3_faulted.desc).map (fun d => d.parameters.length) = some 1 := by decide +kernel
abbrev kX3_river : Cond := .code yX3_river cX3_river 8 (some .int)
theorem fd_X3_river : yX3_river.cls = RX3 ∧ yX3_river.cls ≠ "java/lang/invoke/MethodHandle" ∧ yX3_river.cls ≠ "java/lang/invoke/VarHandle" ∧ (parseMethodDescriptor yX3_river.desc).map (fun d => d.parameters.length) = some 4 := by decide +kernel
abbrev kX3_ofPerson : Cond := .code yX3_ofPerson cX3_ofPerson 3 (some .int)
theorem fd_X3_ofPerson : yX3_ofPerson.cls = RX3 ∧ yX3_ofPerson.cls ≠ "java/lang/invoke/MethodHandle" ∧ yX3_ofPerson.cls ≠ "java/lang/invoke/VarHandle" ∧ (parseMethodDescriptor yX3_ofPerson.desc).map (fun d => d.parameters.length) = some 2 := by decide +kernel
abbrev kX3_owes : Cond := .code yX3_owes cX3_owes 3 (some .int)
theorem fd_X3_owes : yX3_owes.cls = RX3 ∧ yX3_owes.cls ≠ "java/lang/invoke/MethodHandle" ∧ yX3_owes.cls ≠ "java/lang/invoke/VarHandle" ∧ (parseMethodDescriptor yX3_owes.desc).map (fun d => d.parameters.length) = some 2 := by decide +kernel
abbrev kX3_lend : Cond := .code yX3_lend cX3_lend 5 (some .int)
theorem fd_X3_lend : yX3_lend.cls = RX3 ∧ yX3_lend.cls ≠ "java/lang/invoke/MethodHandle" ∧ yX3_lend.cls ≠ "java/lang/invoke/VarHandle" ∧ (parseMethodDescriptor yX3_lend.desc).map (fun d => d.parameters.length) = some 3 := by decide +kernel
abbrev kX3_count : Cond := .code yX3_count cX3_count 3 (some .int)
theorem fd_X3_count : yX3_count.cls = RX3 ∧ yX3_count.cls ≠ "java/lang/invoke/MethodHandle" ∧ yX3_count.cls ≠ "java/lang/invoke/VarHandle" ∧ (parseMethodDescriptor yX3_count.desc).map (fun d => d.parameters.length) = some 1 := by decide +kernel
abbrev kX3_build : Cond := .code yX3_build cX3_build 3 (some .int)
theorem fd_X3_build : yX3_build.cls = RX3 ∧ yX3_build.cls ≠ "java/lang/invoke/MethodHandle" ∧ yX3_build.cls ≠ "java/lang/invoke/VarHandle" ∧ (parseMethodDescriptor yX3_build.desc).map (fun d => d.parameters.length) = some 1 := by decide +kernel
abbrev kX3_refusalOfOneIn : Cond := .code yX3_refusalOfOneIn cX3_refusalOfOneIn 4 (some .int)
theorem fd_X3_refusalOfOneIn : yX3_refusalOfOneIn.cls = RX3 ∧ yX3_refusalOfOneIn.cls ≠ "java/lang/invoke/MethodHandle" ∧ yX3_refusalOfOneIn.cls ≠ "java/lang/invoke/VarHandle" ∧ (parseMethodDescriptor yX3_refusalOfOneIn.desc).map (fun d => d.parameters.length) = some 3 := by decide +kernel
abbrev kX3_debt : Cond := .code yX3_debt cX3_debt 4 (some .int)
theorem fd_X3_debt : yX3_debt.cls = RX3 ∧ yX3_debt.cls ≠ "java/lang/invoke/MethodHandle" ∧ yX3_debt.cls ≠ "java/lang/invoke/VarHandle" ∧ (parseMethodDescriptor yX3_debt.desc).map (fun d => d.parameters.length) = some 2 := by decide +kernel
abbrev kX3_refusalOfLoad : Cond := .code yX3_refusalOfLoad cX3_refusalOfLoad 2 (some .int)
theorem fd_X3_refusalOfLoad : yX3_refusalOfLoad.cls = RX3 ∧ yX3_refusalOfLoad.cls ≠ "java/lang/invoke/MethodHandle" ∧ yX3_refusalOfLoad.cls ≠ "java/lang/invoke/VarHandle" ∧ (parseMethodDescriptor yX3_refusalOfLoad.desc).map (fun d => d.parameters.length) = some 1 := by decide +kernel
abbrev kX3_pullers : Cond := .code yX3_pullers cX3_pullers 3 (some .int)
theorem fd_X3_pullers : yX3_pullers.cls = RX3 ∧ yX3_pullers.cls ≠ "java/lang/invoke/MethodHandle" ∧ yX3_pullers.cls ≠ "java/lang/invoke/VarHandle" ∧ (parseMethodDescriptor yX3_pullers.desc).map (fun d => d.parameters.length) = some 1 := by decide +kernel
abbrev kX3_fair : Cond := .code yX3_fair cX3_fair 3 (some .int)
theorem fd_X3_fair : yX3_fair.cls = RX3 ∧ yX3_fair.cls ≠ "java/lang/invoke/MethodHandle" ∧ yX3_fair.cls ≠ "java/lang/invoke/VarHandle" ∧ (parseMethodDescriptor yX3_fair.desc).map (fun d => d.parameters.length) = some 1 := by decide +kernel
abbrev kX3_isLoadsQuestion : Cond := .code yX3_isLoadsQuestion cX3_isLoadsQuestion 1 (some .boolean)
theorem fd_X3_isLoadsQuestion : yX3_isLoadsQuestion.cls ≠ "java/lang/invoke/MethodHandle" ∧ yX3_isLoadsQuestion.cls ≠ "java/lang/invoke/VarHandle" ∧ (parseMethodDescriptor yX3_isLoadsQuestion.desc).map (fun d => d.parameters.length) = some 1 := by decide +kernel
abbrev kX3_ofLoads : Cond := .code yX3_ofLoads cX3_ofLoads 8 (some .int)
theorem fd_X3_ofLoads : yX3_ofLoads.cls = RX3 ∧ yX3_ofLoads.cls ≠ "java/lang/invoke/MethodHandle" ∧ yX3_ofLoads.cls ≠ "java/lang/invoke/VarHandle" ∧ (parseMethodDescriptor yX3_ofLoads.desc).map (fun d => d.parameters.length) = some 4 := by decide +kernel
abbrev kX3_loads : Cond := .code yX3_loads cX3_loads 9 (some .int)
theorem fd_X3_loads : yX3_loads.cls = RX3 ∧ yX3_loads.cls ≠ "java/lang/invoke/MethodHandle" ∧ yX3_loads.cls ≠ "java/lang/invoke/VarHandle" ∧ (parseMethodDescriptor yX3_loads.desc).map (fun d => d.parameters.length) = some 5 := by decide +kernel
abbrev kX3_cross : Cond := .code yX3_cross cX3_cross 3 (some .int)
theorem fd_X3_cross : yX3_cross.cls = RX3 ∧ yX3_cross.cls ≠ "java/lang/invoke/MethodHandle" ∧ yX3_cross.cls ≠ "java/lang/invoke/VarHandle" ∧ (parseMethodDescriptor yX3_cross.desc).map (fun d => d.parameters.length) = some 1 := by decide +kernel
abbrev kX3_loan : Cond := .code yX3_loan cX3_loan 7 (some .int)
theorem fd_X3_loan : yX3_loan.cls = RX3 ∧ yX3_loan.cls ≠ "java/lang/invoke/MethodHandle" ∧ yX3_loan.cls ≠ "java/lang/invoke/VarHandle" ∧ (parseMethodDescriptor yX3_loan.desc).map (fun d => d.parameters.length) = some 3 := by decide +kernel
abbrev kX3_forgave : Cond := .code yX3_forgave cX3_forgave 6 (some .int)
theorem fd_X3_forgave : yX3_forgave.cls = RX3 ∧ yX3_forgave.cls ≠ "java/lang/invoke/MethodHandle" ∧ yX3_forgave.cls ≠ "java/lang/invoke/VarHandle" ∧ (parseMethodDescriptor yX3_forgave.desc).map (fun d => d.parameters.length) = some 1 := by decide +kernel
abbrev kX3_reading : Cond := .code yX3_reading cX3_reading 5 (some .int)
theorem fd_X3_reading : yX3_reading.cls = RX3 ∧ yX3_reading.cls ≠ "java/lang/invoke/MethodHandle" ∧ yX3_reading.cls ≠ "java/lang/invoke/VarHandle" ∧ (parseMethodDescriptor yX3_reading.desc).map (fun d => d.parameters.length) = some 2 := by decide +kernel
abbrev kX3_back : Cond := .code yX3_back cX3_back 2 (some .int)
theorem fd_X3_back : yX3_back.cls = RX3 ∧ yX3_back.cls ≠ "java/lang/invoke/MethodHandle" ∧ yX3_back.cls ≠ "java/lang/invoke/VarHandle" ∧ (parseMethodDescriptor yX3_back.desc).map (fun d => d.parameters.length) = some 1 := by decide +kernel
abbrev kX3_notes : Cond := .code yX3_notes cX3_notes 3 (some .int)
theorem fd_X3_notes : yX3_notes.cls = RX3 ∧ yX3_notes.cls ≠ "java/lang/invoke/MethodHandle" ∧ yX3_notes.cls ≠ "java/lang/invoke/VarHandle" ∧ (parseMethodDescriptor yX3_notes.desc).map (fun d => d.parameters.length) = some 2 := by decide +kernel
abbrev kX3_kinds : Cond := .code yX3_kinds cX3_kinds 2 (some .int)
theorem fd_X3_kinds : yX3_kinds.cls = RX3 ∧ yX3_kinds.cls ≠ "java/lang/invoke/MethodHandle" ∧ yX3_kinds.cls ≠ "java/lang/invoke/VarHandle" ∧ (parseMethodDescriptor yX3_kinds.desc).map (fun d => d.parameters.length) = some 1 := by decide +kernel
abbrev kX3_often : Cond := .code yX3_often cX3_often 1 (some .int)
theorem fd_X3_often : yX3_often.cls = RX3 ∧ yX3_often.cls ≠ "java/lang/invoke/MethodHandle" ∧ yX3_often.cls ≠ "java/lang/invoke/VarHandle" ∧ (parseMethodDescriptor yX3_often.desc).map (fun d => d.parameters.length) = some 0 := by decide +kernel
abbrev kX3_odds : Cond := .code yX3_odds cX3_odds 7 (some .long)
theorem fd_X3_odds : yX3_odds.cls = RX3 ∧ yX3_odds.cls ≠ "java/lang/invoke/MethodHandle" ∧ yX3_odds.cls ≠ "java/lang/invoke/VarHandle" ∧ (parseMethodDescriptor yX3_odds.desc).map (fun d => d.parameters.length) = some 3 := by decide +kernel
abbrev kX3_sheet : Cond := .code yX3_sheet cX3_sheet 4 (some .int)
theorem fd_X3_sheet : yX3_sheet.cls = RX3 ∧ yX3_sheet.cls ≠ "java/lang/invoke/MethodHandle" ∧ yX3_sheet.cls ≠ "java/lang/invoke/VarHandle" ∧ (parseMethodDescriptor yX3_sheet.desc).map (fun d => d.parameters.length) = some 3 := by decide +kernel
abbrev kX3_lose : Cond := .code yX3_lose cX3_lose 3 (some .int)
theorem fd_X3_lose : yX3_lose.cls = RX3 ∧ yX3_lose.cls ≠ "java/lang/invoke/MethodHandle" ∧ yX3_lose.cls ≠ "java/lang/invoke/VarHandle" ∧ (parseMethodDescriptor yX3_lose.desc).map (fun d => d.parameters.length) = some 1 := by decide +kernel
abbrev kX3_put : Cond := .code yX3_put cX3_put 5 (some .int)
theorem fd_X3_put : yX3_put.cls = RX3 ∧ yX3_put.cls ≠ "java/lang/invoke/MethodHandle" ∧ yX3_put.cls ≠ "java/lang/invoke/VarHandle" ∧ (parseMethodDescriptor yX3_put.desc).map (fun d => d.parameters.length) = some 3 := by decide +kernel
abbrev kX3_cell : Cond := .code yX3_cell cX3_cell 6 (some .long)
theorem fd_X3_cell : yX3_cell.cls = RX3 ∧ yX3_cell.cls ≠ "java/lang/invoke/MethodHandle" ∧ yX3_cell.cls ≠ "java/lang/invoke/VarHandle" ∧ (parseMethodDescriptor yX3_cell.desc).map (fun d => d.parameters.length) = some 3 := by decide +kernel
abbrev kX3_copy : Cond := .code yX3_copy cX3_copy 8 (some .int)
theorem fd_X3_copy : yX3_copy.cls = RX3 ∧ yX3_copy.cls ≠ "java/lang/invoke/MethodHandle" ∧ yX3_copy.cls ≠ "java/lang/invoke/VarHandle" ∧ (parseMethodDescriptor yX3_copy.desc).map (fun d => d.parameters.length) = some 5 := by decide +kernel
abbrev kX3_leaveTrace : Cond := .code yX3_leaveTrace cX3_leaveTrace 2 none
theorem fd_X3_leaveTrace : yX3_leaveTrace.cls = RX3 ∧ yX3_leaveTrace.cls ≠ "java/lang/invoke/MethodHandle" ∧ yX3_leaveTrace.cls ≠ "java/lang/invoke/VarHandle" ∧ (parseMethodDescriptor yX3_leaveTrace.desc).map (fun d => d.parameters.length) = some 1 := by decide +kernel
abbrev kX3_riderTells : Cond := .code yX3_riderTells cX3_riderTells 2 (some .int)
theorem fd_X3_riderTells : yX3_riderTells.cls = RX3 ∧ yX3_riderTells.cls ≠ "java/lang/invoke/MethodHandle" ∧ yX3_riderTells.cls ≠ "java/lang/invoke/VarHandle" ∧ (parseMethodDescriptor yX3_riderTells.desc).map (fun d => d.parameters.length) = some 1 := by decide +kernel
abbrev kX3_friendTells : Cond := .code yX3_friendTells cX3_friendTells 2 (some .int)
theorem fd_X3_friendTells : yX3_friendTells.cls = RX3 ∧ yX3_friendTells.cls ≠ "java/lang/invoke/MethodHandle" ∧ yX3_friendTells.cls ≠ "java/lang/invoke/VarHandle" ∧ (parseMethodDescriptor yX3_friendTells.desc).map (fun d => d.parameters.length) = some 1 := by decide +kernel
abbrev kX3_bankerTells : Cond := .code yX3_bankerTells cX3_bankerTells 3 (some .int)
theorem fd_X3_bankerTells : yX3_bankerTells.cls = RX3 ∧ yX3_bankerTells.cls ≠ "java/lang/invoke/MethodHandle" ∧ yX3_bankerTells.cls ≠ "java/lang/invoke/VarHandle" ∧ (parseMethodDescriptor yX3_bankerTells.desc).map (fun d => d.parameters.length) = some 1 := by decide +kernel
abbrev kX3_tell : Cond := .code yX3_tell cX3_tell 2 (some .int)
theorem fd_X3_tell : yX3_tell.cls = RX3 ∧ yX3_tell.cls ≠ "java/lang/invoke/MethodHandle" ∧ yX3_tell.cls ≠ "java/lang/invoke/VarHandle" ∧ (parseMethodDescriptor yX3_tell.desc).map (fun d => d.parameters.length) = some 1 := by decide +kernel
abbrev kX3_bankerIsHailed : Cond := .code yX3_bankerIsHailed cX3_bankerIsHailed 1 (some .int)
theorem fd_X3_bankerIsHailed : yX3_bankerIsHailed.cls = RX3 ∧ yX3_bankerIsHailed.cls ≠ "java/lang/invoke/MethodHandle" ∧ yX3_bankerIsHailed.cls ≠ "java/lang/invoke/VarHandle" ∧ (parseMethodDescriptor yX3_bankerIsHailed.desc).map (fun d => d.parameters.length) = some 0 := by decide +kernel
abbrev kX3_lentHail : Cond := .code yX3_lentHail cX3_lentHail 2 (some .int)
theorem fd_X3_lentHail : yX3_lentHail.cls = RX3 ∧ yX3_lentHail.cls ≠ "java/lang/invoke/MethodHandle" ∧ yX3_lentHail.cls ≠ "java/lang/invoke/VarHandle" ∧ (parseMethodDescriptor yX3_lentHail.desc).map (fun d => d.parameters.length) = some 1 := by decide +kernel
abbrev kX3_hail : Cond := .code yX3_hail cX3_hail 2 (some .int)
theorem fd_X3_hail : yX3_hail.cls = RX3 ∧ yX3_hail.cls ≠ "java/lang/invoke/MethodHandle" ∧ yX3_hail.cls ≠ "java/lang/invoke/VarHandle" ∧ (parseMethodDescriptor yX3_hail.desc).map (fun d => d.parameters.length) = some 1 := by decide +kernel
abbrev kX3_as : Cond := .code yX3_as cX3_as 3 (some .int)
theorem fd_X3_as : yX3_as.cls = RX3 ∧ yX3_as.cls ≠ "java/lang/invoke/MethodHandle" ∧ yX3_as.cls ≠ "java/lang/invoke/VarHandle" ∧ (parseMethodDescriptor yX3_as.desc).map (fun d => d.parameters.length) = some 2 := by decide +kernel
abbrev kX3_trace : Cond := .code yX3_trace cX3_trace 1 (some .int)
theorem fd_X3_trace : yX3_trace.cls = RX3 ∧ yX3_trace.cls ≠ "java/lang/invoke/MethodHandle" ∧ yX3_trace.cls ≠ "java/lang/invoke/VarHandle" ∧ (parseMethodDescriptor yX3_trace.desc).map (fun d => d.parameters.length) = some 0 := by decide +kernel
abbrev kX3_fault : Cond := .code yX3_fault cX3_fault 1 (some .int)
theorem fd_X3_fault : yX3_fault.cls = RX3 ∧ yX3_fault.cls ≠ "java/lang/invoke/MethodHandle" ∧ yX3_fault.cls ≠ "java/lang/invoke/VarHandle" ∧ (parseMethodDescriptor yX3_fault.desc).map (fun d => d.parameters.length) = some 0 := by decide +kernel
abbrev kX3_many : Cond := .code yX3_many cX3_many 2 (some .int)
theorem fd_X3_many : yX3_many.cls = RX3 ∧ yX3_many.cls ≠ "java/lang/invoke/MethodHandle" ∧ yX3_many.cls ≠ "java/lang/invoke/VarHandle" ∧ (parseMethodDescriptor yX3_many.desc).map (fun d => d.parameters.length) = some 1 := by decide +kernel
abbrev kX4_fails : Cond := .code yX4_fails cX4_fails 2 (some .int)
theorem fd_X4_fails : yX4_fails.cls = RX4 ∧ yX4_fails.cls ≠ "java/lang/invoke/MethodHandle" ∧ yX4_fails.cls ≠ "java/lang/invoke/VarHandle" ∧ (parseMethodDescriptor yX4_fails.desc).map (fun d => d.parameters.length) = some 1 := by decide +kernel
abbrev kX4_lost : Cond := .code yX4_lost cX4_lost 2 (some .long)
theorem fd_X4_lost : yX4_lost.cls = RX4 ∧ yX4_lost.cls ≠ "java/lang/invoke/MethodHandle" ∧ yX4_lost.cls ≠ "java/lang/invoke/VarHandle" ∧ (parseMethodDescriptor yX4_lost.desc).map (fun d => d.parameters.length) = some 1 := by decide +kernel
abbrev kX4_within : Cond := .code yX4_within cX4_within 3 (some .boolean)
theorem fd_X4_within : yX4_within.cls ≠ "java/lang/invoke/MethodHandle" ∧ yX4_within.cls ≠ "java/lang/invoke/VarHandle" ∧ (parseMethodDescriptor yX4_within.desc).map (fun d => d.parameters.length) = some 3 := by decide +kernel
abbrev kX4_isSheet : Cond := .code yX4_isSheet cX4_isSheet 1 (some .boolean)
theorem fd_X4_isSheet : yX4_isSheet.cls ≠ "java/lang/invoke/MethodHandle" ∧ yX4_isSheet.cls ≠ "java/lang/invoke/VarHandle" ∧ (parseMethodDescriptor yX4_isSheet.desc).map (fun d => d.parameters.length) = some 1 := by decide +kernel
abbrev kX4_isSort : Cond := .code yX4_isSort cX4_isSort 1 (some .boolean)
theorem fd_X4_isSort : yX4_isSort.cls ≠ "java/lang/invoke/MethodHandle" ∧ yX4_isSort.cls ≠ "java/lang/invoke/VarHandle" ∧ (parseMethodDescriptor yX4_isSort.desc).map (fun d => d.parameters.length) = some 1 := by decide +kernel
abbrev kX4_against : Cond := .code yX4_against cX4_against 5 (some .int)
theorem fd_X4_against : yX4_against.cls = RX4 ∧ yX4_against.cls ≠ "java/lang/invoke/MethodHandle" ∧ yX4_against.cls ≠ "java/lang/invoke/VarHandle" ∧ (parseMethodDescriptor yX4_against.desc).map (fun d => d.parameters.length) = some 4 := by decide +kernel
abbrev kX4_isPerson : Cond := .code yX4_isPerson cX4_isPerson 2 (some .boolean)
theorem fd_X4_isPerson : yX4_isPerson.cls = RX4 ∧ yX4_isPerson.cls ≠ "java/lang/invoke/MethodHandle" ∧ yX4_isPerson.cls ≠ "java/lang/invoke/VarHandle" ∧ (parseMethodDescriptor yX4_isPerson.desc).map (fun d => d.parameters.length) = some 1 := by decide +kernel
abbrev kX4_isSet : Cond := .code yX4_isSet cX4_isSet 2 (some .boolean)
theorem fd_X4_isSet : yX4_isSet.cls = RX4 ∧ yX4_isSet.cls ≠ "java/lang/invoke/MethodHandle" ∧ yX4_isSet.cls ≠ "java/lang/invoke/VarHandle" ∧ (parseMethodDescriptor yX4_isSet.desc).map (fun d => d.parameters.length) = some 1 := by decide +kernel
abbrev kX4_isOf : Cond := .code yX4_isOf cX4_isOf 2 (some .boolean)
theorem fd_X4_isOf : yX4_isOf.cls ≠ "java/lang/invoke/MethodHandle" ∧ yX4_isOf.cls ≠ "java/lang/invoke/VarHandle" ∧ (parseMethodDescriptor yX4_isOf.desc).map (fun d => d.parameters.length) = some 2 := by decide +kernel
abbrev kX4_digit : Cond := .code yX4_digit cX4_digit 4 (some .int)
theorem fd_X4_digit : yX4_digit.cls = RX4 ∧ yX4_digit.cls ≠ "java/lang/invoke/MethodHandle" ∧ yX4_digit.cls ≠ "java/lang/invoke/VarHandle" ∧ (parseMethodDescriptor yX4_digit.desc).map (fun d => d.parameters.length) = some 3 := by decide +kernel
abbrev kX4_isSign : Cond := .code yX4_isSign cX4_isSign 3 (some .boolean)
theorem fd_X4_isSign : yX4_isSign.cls = RX4 ∧ yX4_isSign.cls ≠ "java/lang/invoke/MethodHandle" ∧ yX4_isSign.cls ≠ "java/lang/invoke/VarHandle" ∧ (parseMethodDescriptor yX4_isSign.desc).map (fun d => d.parameters.length) = some 2 := by decide +kernel
abbrev kX4_readPerson : Cond := .code yX4_readPerson cX4_readPerson 5 (some .boolean)
theorem fd_X4_readPerson : yX4_readPerson.cls = RX4 ∧ yX4_readPerson.cls ≠ "java/lang/invoke/MethodHandle" ∧ yX4_readPerson.cls ≠ "java/lang/invoke/VarHandle" ∧ (parseMethodDescriptor yX4_readPerson.desc).map (fun d => d.parameters.length) = some 2 := by decide +kernel
abbrev kX4_readRiver : Cond := .code yX4_readRiver cX4_readRiver 3 (some .boolean)
theorem fd_X4_readRiver : yX4_readRiver.cls = RX4 ∧ yX4_readRiver.cls ≠ "java/lang/invoke/MethodHandle" ∧ yX4_readRiver.cls ≠ "java/lang/invoke/VarHandle" ∧ (parseMethodDescriptor yX4_readRiver.desc).map (fun d => d.parameters.length) = some 1 := by decide +kernel
abbrev kX4_takeRiver : Cond := .code yX4_takeRiver cX4_takeRiver 3 none
theorem fd_X4_takeRiver : yX4_takeRiver.cls = RX4 ∧ yX4_takeRiver.cls ≠ "java/lang/invoke/MethodHandle" ∧ yX4_takeRiver.cls ≠ "java/lang/invoke/VarHandle" ∧ (parseMethodDescriptor yX4_takeRiver.desc).map (fun d => d.parameters.length) = some 0 := by decide +kernel
abbrev kX4_river : Cond := .code yX4_river cX4_river 7 (some .int)
theorem fd_X4_river : yX4_river.cls = RX4 ∧ yX4_river.cls ≠ "java/lang/invoke/MethodHandle" ∧ yX4_river.cls ≠ "java/lang/invoke/VarHandle" ∧ (parseMethodDescriptor yX4_river.desc).map (fun d => d.parameters.length) = some 4 := by decide +kernel
abbrev kX4_allOf : Cond := .code yX4_allOf cX4_allOf 4 (some .int)
theorem fd_X4_allOf : yX4_allOf.cls = RX4 ∧ yX4_allOf.cls ≠ "java/lang/invoke/MethodHandle" ∧ yX4_allOf.cls ≠ "java/lang/invoke/VarHandle" ∧ (parseMethodDescriptor yX4_allOf.desc).map (fun d => d.parameters.length) = some 1 := by decide +kernel
abbrev kX4_ofPerson : Cond := .code yX4_ofPerson cX4_ofPerson 3 (some .int)
theorem fd_X4_ofPerson : yX4_ofPerson.cls = RX4 ∧ yX4_ofPerson.cls ≠ "java/lang/invoke/MethodHandle" ∧ yX4_ofPerson.cls ≠ "java/lang/invoke/VarHandle" ∧ (parseMethodDescriptor yX4_ofPerson.desc).map (fun d => d.parameters.length) = some 2 := by decide +kernel
abbrev kX4_owes : Cond := .code yX4_owes cX4_owes 3 (some .int)
theorem fd_X4_owes : yX4_owes.cls = RX4 ∧ yX4_owes.cls ≠ "java/lang/invoke/MethodHandle" ∧ yX4_owes.cls ≠ "java/lang/invoke/VarHandle" ∧ (parseMethodDescriptor yX4_owes.desc).map (fun d => d.parameters.length) = some 2 := by decide +kernel
abbrev kX4_isNote : Cond := .code yX4_isNote cX4_isNote 3 (some .boolean)
theorem fd_X4_isNote : yX4_isNote.cls = RX4 ∧ yX4_isNote.cls ≠ "java/lang/invoke/MethodHandle" ∧ yX4_isNote.cls ≠ "java/lang/invoke/VarHandle" ∧ (parseMethodDescriptor yX4_isNote.desc).map (fun d => d.parameters.length) = some 2 := by decide +kernel
abbrev kX4_lend : Cond := .code yX4_lend cX4_lend 5 (some .int)
theorem fd_X4_lend : yX4_lend.cls = RX4 ∧ yX4_lend.cls ≠ "java/lang/invoke/MethodHandle" ∧ yX4_lend.cls ≠ "java/lang/invoke/VarHandle" ∧ (parseMethodDescriptor yX4_lend.desc).map (fun d => d.parameters.length) = some 3 := by decide +kernel
abbrev kX4_count : Cond := .code yX4_count cX4_count 3 (some .int)
theorem fd_X4_count : yX4_count.cls = RX4 ∧ yX4_count.cls ≠ "java/lang/invoke/MethodHandle" ∧ yX4_count.cls ≠ "java/lang/invoke/VarHandle" ∧ (parseMethodDescriptor yX4_count.desc).map (fun d => d.parameters.length) = some 1 := by decide +kernel
abbrev kX4_build : Cond := .code yX4_build cX4_build 3 (some .int)
theorem fd_X4_build : yX4_build.cls = RX4 ∧ yX4_build.cls ≠ "java/lang/invoke/MethodHandle" ∧ yX4_build.cls ≠ "java/lang/invoke/VarHandle" ∧ (parseMethodDescriptor yX4_build.desc).map (fun d => d.parameters.length) = some 1 := by decide +kernel
abbrev kX4_debtOf : Cond := .code yX4_debtOf cX4_debtOf 6 (some .int)
theorem fd_X4_debtOf : yX4_debtOf.cls = RX4 ∧ yX4_debtOf.cls ≠ "java/lang/invoke/MethodHandle" ∧ yX4_debtOf.cls ≠ "java/lang/invoke/VarHandle" ∧ (parseMethodDescriptor yX4_debtOf.desc).map (fun d => d.parameters.length) = some 2 := by decide +kernel
abbrev kX4_pullersOf : Cond := .code yX4_pullersOf cX4_pullersOf 6 (some .int)
theorem fd_X4_pullersOf : yX4_pullersOf.cls = RX4 ∧ yX4_pullersOf.cls ≠ "java/lang/invoke/MethodHandle" ∧ yX4_pullersOf.cls ≠ "java/lang/invoke/VarHandle" ∧ (parseMethodDescriptor yX4_pullersOf.desc).map (fun d => d.parameters.length) = some 1 := by decide +kernel
abbrev kX4_size : Cond := .code yX4_size cX4_size 3 (some .int)
theorem fd_X4_size : yX4_size.cls ≠ "java/lang/invoke/MethodHandle" ∧ yX4_size.cls ≠ "java/lang/invoke/VarHandle" ∧ (parseMethodDescriptor yX4_size.desc).map (fun d => d.parameters.length) = some 1 := by decide +kernel
abbrev kX4_isFair : Cond := .code yX4_isFair cX4_isFair 4 (some .boolean)
theorem fd_X4_isFair : yX4_isFair.cls = RX4 ∧ yX4_isFair.cls ≠ "java/lang/invoke/MethodHandle" ∧ yX4_isFair.cls ≠ "java/lang/invoke/VarHandle" ∧ (parseMethodDescriptor yX4_isFair.desc).map (fun d => d.parameters.length) = some 1 := by decide +kernel
abbrev kX4_debt : Cond := .code yX4_debt cX4_debt 3 (some .int)
theorem fd_X4_debt : yX4_debt.cls = RX4 ∧ yX4_debt.cls ≠ "java/lang/invoke/MethodHandle" ∧ yX4_debt.cls ≠ "java/lang/invoke/VarHandle" ∧ (parseMethodDescriptor yX4_debt.desc).map (fun d => d.parameters.length) = some 2 := by decide +kernel
abbrev kX4_pullers : Cond := .code yX4_pullers cX4_pullers 2 (some .int)
theorem fd_X4_pullers : yX4_pullers.cls = RX4 ∧ yX4_pullers.cls ≠ "java/lang/invoke/MethodHandle" ∧ yX4_pullers.cls ≠ "java/lang/invoke/VarHandle" ∧ (parseMethodDescriptor yX4_pullers.desc).map (fun d => d.parameters.length) = some 1 := by decide +kernel
abbrev kX4_fair : Cond := .code yX4_fair cX4_fair 2 (some .int)
theorem fd_X4_fair : yX4_fair.cls = RX4 ∧ yX4_fair.cls ≠ "java/lang/invoke/MethodHandle" ∧ yX4_fair.cls ≠ "java/lang/invoke/VarHandle" ∧ (parseMethodDescriptor yX4_fair.desc).map (fun d => d.parameters.length) = some 1 := by decide +kernel
abbrev kX4_goLoads : Cond := .code yX4_goLoads cX4_goLoads 7 (some .int)
theorem fd_X4_goLoads : yX4_goLoads.cls = RX4 ∧ yX4_goLoads.cls ≠ "java/lang/invoke/MethodHandle" ∧ yX4_goLoads.cls ≠ "java/lang/invoke/VarHandle" ∧ (parseMethodDescriptor yX4_goLoads.desc).map (fun d => d.parameters.length) = some 2 := by decide +kernel
abbrev kX4_tellLoads : Cond := .code yX4_tellLoads cX4_tellLoads 2 (some .int)
theorem fd_X4_tellLoads : yX4_tellLoads.cls = RX4 ∧ yX4_tellLoads.cls ≠ "java/lang/invoke/MethodHandle" ∧ yX4_tellLoads.cls ≠ "java/lang/invoke/VarHandle" ∧ (parseMethodDescriptor yX4_tellLoads.desc).map (fun d => d.parameters.length) = some 1 := by decide +kernel
abbrev kX4_loads : Cond := .code yX4_loads cX4_loads 9 (some .int)
theorem fd_X4_loads : yX4_loads.cls = RX4 ∧ yX4_loads.cls ≠ "java/lang/invoke/MethodHandle" ∧ yX4_loads.cls ≠ "java/lang/invoke/VarHandle" ∧ (parseMethodDescriptor yX4_loads.desc).map (fun d => d.parameters.length) = some 5 := by decide +kernel
abbrev kX4_findFewest : Cond := .code yX4_findFewest cX4_findFewest 4 none
theorem fd_X4_findFewest : yX4_findFewest.cls = RX4 ∧ yX4_findFewest.cls ≠ "java/lang/invoke/MethodHandle" ∧ yX4_findFewest.cls ≠ "java/lang/invoke/VarHandle" ∧ (parseMethodDescriptor yX4_findFewest.desc).map (fun d => d.parameters.length) = some 0 := by decide +kernel
abbrev kX4_firstLoad : Cond := .code yX4_firstLoad cX4_firstLoad 3 (some .int)
theorem fd_X4_firstLoad : yX4_firstLoad.cls = RX4 ∧ yX4_firstLoad.cls ≠ "java/lang/invoke/MethodHandle" ∧ yX4_firstLoad.cls ≠ "java/lang/invoke/VarHandle" ∧ (parseMethodDescriptor yX4_firstLoad.desc).map (fun d => d.parameters.length) = some 1 := by decide +kernel
abbrev kX4_cross : Cond := .code yX4_cross cX4_cross 5 (some .int)
theorem fd_X4_cross : yX4_cross.cls = RX4 ∧ yX4_cross.cls ≠ "java/lang/invoke/MethodHandle" ∧ yX4_cross.cls ≠ "java/lang/invoke/VarHandle" ∧ (parseMethodDescriptor yX4_cross.desc).map (fun d => d.parameters.length) = some 1 := by decide +kernel
abbrev kX4_pullsBy : Cond := .code yX4_pullsBy cX4_pullsBy 7 (some .boolean)
theorem fd_X4_pullsBy : yX4_pullsBy.cls = RX4 ∧ yX4_pullsBy.cls ≠ "java/lang/invoke/MethodHandle" ∧ yX4_pullsBy.cls ≠ "java/lang/invoke/VarHandle" ∧ (parseMethodDescriptor yX4_pullsBy.desc).map (fun d => d.parameters.length) = some 4 := by decide +kernel
abbrev kX4_loan : Cond := .code yX4_loan cX4_loan 6 (some .int)
theorem fd_X4_loan : yX4_loan.cls = RX4 ∧ yX4_loan.cls ≠ "java/lang/invoke/MethodHandle" ∧ yX4_loan.cls ≠ "java/lang/invoke/VarHandle" ∧ (parseMethodDescriptor yX4_loan.desc).map (fun d => d.parameters.length) = some 3 := by decide +kernel
abbrev kX4_forgave : Cond := .code yX4_forgave cX4_forgave 4 (some .int)
theorem fd_X4_forgave : yX4_forgave.cls = RX4 ∧ yX4_forgave.cls ≠ "java/lang/invoke/MethodHandle" ∧ yX4_forgave.cls ≠ "java/lang/invoke/VarHandle" ∧ (parseMethodDescriptor yX4_forgave.desc).map (fun d => d.parameters.length) = some 1 := by decide +kernel
abbrev kX4_reading : Cond := .code yX4_reading cX4_reading 3 (some .int)
theorem fd_X4_reading : yX4_reading.cls = RX4 ∧ yX4_reading.cls ≠ "java/lang/invoke/MethodHandle" ∧ yX4_reading.cls ≠ "java/lang/invoke/VarHandle" ∧ (parseMethodDescriptor yX4_reading.desc).map (fun d => d.parameters.length) = some 2 := by decide +kernel
abbrev kX4_back : Cond := .code yX4_back cX4_back 2 (some .int)
theorem fd_X4_back : yX4_back.cls = RX4 ∧ yX4_back.cls ≠ "java/lang/invoke/MethodHandle" ∧ yX4_back.cls ≠ "java/lang/invoke/VarHandle" ∧ (parseMethodDescriptor yX4_back.desc).map (fun d => d.parameters.length) = some 1 := by decide +kernel
abbrev kX4_areSo : Cond := .code yX4_areSo cX4_areSo 2 (some .boolean)
theorem fd_X4_areSo : yX4_areSo.cls = RX4 ∧ yX4_areSo.cls ≠ "java/lang/invoke/MethodHandle" ∧ yX4_areSo.cls ≠ "java/lang/invoke/VarHandle" ∧ (parseMethodDescriptor yX4_areSo.desc).map (fun d => d.parameters.length) = some 0 := by decide +kernel
abbrev kX4_notes : Cond := .code yX4_notes cX4_notes 6 (some .int)
theorem fd_X4_notes : yX4_notes.cls = RX4 ∧ yX4_notes.cls ≠ "java/lang/invoke/MethodHandle" ∧ yX4_notes.cls ≠ "java/lang/invoke/VarHandle" ∧ (parseMethodDescriptor yX4_notes.desc).map (fun d => d.parameters.length) = some 2 := by decide +kernel
abbrev kX4_kinds : Cond := .code yX4_kinds cX4_kinds 5 (some .int)
theorem fd_X4_kinds : yX4_kinds.cls = RX4 ∧ yX4_kinds.cls ≠ "java/lang/invoke/MethodHandle" ∧ yX4_kinds.cls ≠ "java/lang/invoke/VarHandle" ∧ (parseMethodDescriptor yX4_kinds.desc).map (fun d => d.parameters.length) = some 1 := by decide +kernel
abbrev kX4_often : Cond := .code yX4_often cX4_often 4 (some .int)
theorem fd_X4_often : yX4_often.cls = RX4 ∧ yX4_often.cls ≠ "java/lang/invoke/MethodHandle" ∧ yX4_often.cls ≠ "java/lang/invoke/VarHandle" ∧ (parseMethodDescriptor yX4_often.desc).map (fun d => d.parameters.length) = some 0 := by decide +kernel
abbrev kX4_inLeastTerms : Cond := .code yX4_inLeastTerms cX4_inLeastTerms 11 (some .long)
theorem fd_X4_inLeastTerms : yX4_inLeastTerms.cls ≠ "java/lang/invoke/MethodHandle" ∧ yX4_inLeastTerms.cls ≠ "java/lang/invoke/VarHandle" ∧ (parseMethodDescriptor yX4_inLeastTerms.desc).map (fun d => d.parameters.length) = some 3 := by decide +kernel
abbrev kX4_odds : Cond := .code yX4_odds cX4_odds 6 (some .long)
theorem fd_X4_odds : yX4_odds.cls = RX4 ∧ yX4_odds.cls ≠ "java/lang/invoke/MethodHandle" ∧ yX4_odds.cls ≠ "java/lang/invoke/VarHandle" ∧ (parseMethodDescriptor yX4_odds.desc).map (fun d => d.parameters.length) = some 3 := by decide +kernel
abbrev kX4_sheet : Cond := .code yX4_sheet cX4_sheet 5 (some .int)
theorem fd_X4_sheet : yX4_sheet.cls = RX4 ∧ yX4_sheet.cls ≠ "java/lang/invoke/MethodHandle" ∧ yX4_sheet.cls ≠ "java/lang/invoke/VarHandle" ∧ (parseMethodDescriptor yX4_sheet.desc).map (fun d => d.parameters.length) = some 3 := by decide +kernel
abbrev kX4_lose : Cond := .code yX4_lose cX4_lose 3 (some .int)
theorem fd_X4_lose : yX4_lose.cls = RX4 ∧ yX4_lose.cls ≠ "java/lang/invoke/MethodHandle" ∧ yX4_lose.cls ≠ "java/lang/invoke/VarHandle" ∧ (parseMethodDescriptor yX4_lose.desc).map (fun d => d.parameters.length) = some 1 := by decide +kernel
abbrev kX4_put : Cond := .code yX4_put cX4_put 4 (some .int)
theorem fd_X4_put : yX4_put.cls = RX4 ∧ yX4_put.cls ≠ "java/lang/invoke/MethodHandle" ∧ yX4_put.cls ≠ "java/lang/invoke/VarHandle" ∧ (parseMethodDescriptor yX4_put.desc).map (fun d => d.parameters.length) = some 3 := by decide +kernel
abbrev kX4_cell : Cond := .code yX4_cell cX4_cell 4 (some .long)
theorem fd_X4_cell : yX4_cell.cls = RX4 ∧ yX4_cell.cls ≠ "java/lang/invoke/MethodHandle" ∧ yX4_cell.cls ≠ "java/lang/invoke/VarHandle" ∧ (parseMethodDescriptor yX4_cell.desc).map (fun d => d.parameters.length) = some 3 := by decide +kernel
abbrev kX4_copy : Cond := .code yX4_copy cX4_copy 10 (some .int)
theorem fd_X4_copy : yX4_copy.cls = RX4 ∧ yX4_copy.cls ≠ "java/lang/invoke/MethodHandle" ∧ yX4_copy.cls ≠ "java/lang/invoke/VarHandle" ∧ (parseMethodDescriptor yX4_copy.desc).map (fun d => d.parameters.length) = some 5 := by decide +kernel
abbrev kX4_begins : Cond := .code yX4_begins cX4_begins 2 none
theorem fd_X4_begins : yX4_begins.cls = RX4 ∧ yX4_begins.cls ≠ "java/lang/invoke/MethodHandle" ∧ yX4_begins.cls ≠ "java/lang/invoke/VarHandle" ∧ (parseMethodDescriptor yX4_begins.desc).map (fun d => d.parameters.length) = some 1 := by decide +kernel
abbrev kX4_tell : Cond := .code yX4_tell cX4_tell 3 (some .int)
theorem fd_X4_tell : yX4_tell.cls = RX4 ∧ yX4_tell.cls ≠ "java/lang/invoke/MethodHandle" ∧ yX4_tell.cls ≠ "java/lang/invoke/VarHandle" ∧ (parseMethodDescriptor yX4_tell.desc).map (fun d => d.parameters.length) = some 1 := by decide +kernel
abbrev kX4_hail : Cond := .code yX4_hail cX4_hail 2 (some .int)
theorem fd_X4_hail : yX4_hail.cls = RX4 ∧ yX4_hail.cls ≠ "java/lang/invoke/MethodHandle" ∧ yX4_hail.cls ≠ "java/lang/invoke/VarHandle" ∧ (parseMethodDescriptor yX4_hail.desc).map (fun d => d.parameters.length) = some 1 := by decide +kernel
abbrev kX4_as : Cond := .code yX4_as cX4_as 3 (some .int)
theorem fd_X4_as : yX4_as.cls = RX4 ∧ yX4_as.cls ≠ "java/lang/invoke/MethodHandle" ∧ yX4_as.cls ≠ "java/lang/invoke/VarHandle" ∧ (parseMethodDescriptor yX4_as.desc).map (fun d => d.parameters.length) = some 2 := by decide +kernel
abbrev kX4_trace : Cond := .code yX4_trace cX4_trace 1 (some .int)
theorem fd_X4_trace : yX4_trace.cls = RX4 ∧ yX4_trace.cls ≠ "java/lang/invoke/MethodHandle" ∧ yX4_trace.cls ≠ "java/lang/invoke/VarHandle" ∧ (parseMethodDescriptor yX4_trace.desc).map (fun d => d.parameters.length) = some 0 := by decide +kernel
abbrev kX4_fault : Cond := .code yX4_fault cX4_fault 1 (some .int)
theorem fd_X4_fault : yX4_fault.cls = RX4 ∧ yX4_fault.cls ≠ "java/lang/invoke/MethodHandle" ∧ yX4_fault.cls ≠ "java/lang/invoke/VarHandle" ∧ (parseMethodDescriptor yX4_fault.desc).map (fun d => d.parameters.length) = some 0 := by decide +kernel
abbrev kX4_many : Cond := .code yX4_many cX4_many 2 (some .int)
theorem fd_X4_many : yX4_many.cls = RX4 ∧ yX4_many.cls ≠ "java/lang/invoke/MethodHandle" ∧ yX4_many.cls ≠ "java/lang/invoke/VarHandle" ∧ (parseMethodDescriptor yX4_many.desc).map (fun d => d.parameters.length) = some 1 := by decide +kernel
theorem gs_X0_102 (cw : Cond) : GoodIn (WS cw) (wsV RX0 102 RX0 yX0_areReadingsSo (WS kX0_areReadingsSo)) := gV tw_351 tw_352 tw_353 tw_34 tw_354
theorem gs_X0_37 (cw : Cond) : GoodIn (WS cw) (wsV RX0 37 RX0 yX0_isPerson (WS kX0_isPerson)) := gV tw_207 tw_188 tw_189 tw_34 tw_190
theorem gs_X0_41 (cw : Cond) : GoodIn (WS cw) (wsV RX0 41 RX0 yX0_everybody (WS kX0_everybody)) := gV tw_232 tw_233 tw_234 tw_34 tw_235
theorem gs_X0_62 (cw : Cond) : GoodIn (WS cw) (va_wsS RX0 62 yX2_kindOf (WS kX2_kindOf)) := gS tw_182 tw_176 tw_37 tw_177
theorem gs_X0_68 (cw : Cond) : GoodIn (WS cw) (wsV RX0 68 RX0 yX0_pullersIf (WS kX0_pullersIf)) := gV tw_252 tw_253 tw_254 tw_34 tw_255
theorem gs_X0_72 (cw : Cond) : GoodIn (WS cw) (wsV RX0 72 RX0 yX0_debtIf (WS kX0_debtIf)) := gV tw_256 tw_237 tw_238 tw_34 tw_239
theorem gs_X0_75 (cw : Cond) : GoodIn (WS cw) (va_wsS RX0 75 yJ6_bitCount_0f7a4 (WS kJ6_bitCount_0f7a4)) := gS tw_265 tw_266 tw_38 tw_267
theorem gs_X0_80 (cw : Cond) : GoodIn (WS cw) (wsV RX0 80 RX0 yX0_pullersOf (WS kX0_pullersOf)) := gV tw_271 tw_249 tw_250 tw_34 tw_251
theorem gs_X0_83 (cw : Cond) : GoodIn (WS cw) (wsV RX0 83 RX0 yX0_isLoad (WS kX0_isLoad)) := gV tw_283 tw_229 tw_230 tw_34 tw_231
theorem gs_X0_86 (cw : Cond) : GoodIn (WS cw) (wsV RX0 86 RX0 yX0_isFair (WS kX0_isFair)) := gV tw_296 tw_262 tw_263 tw_34 tw_264
theorem gs_X0_89 (cw : Cond) : GoodIn (WS cw) (wsV RX0 89 RX0 yX0_canCrossBy (WS kX0_canCrossBy)) := gV tw_305 tw_306 tw_307 tw_34 tw_308
theorem gs_X0_99 (cw : Cond) : GoodIn (WS cw) (wsV RX0 99 RX0 yX0_firstLoadOf (WS kX0_firstLoadOf)) := gV tw_317 tw_318 tw_319 tw_34 tw_320
theorem gs_X2_15 (cw : Cond) : GoodIn (WS cw) (va_wsS RX2 15 yX2_goesOn (WS kX2_goesOn)) := gS tw_166 tw_167 tw_37 tw_168
theorem gs_X2_21 (cw : Cond) : GoodIn (WS cw) (va_wsS RX2 21 yX2_isDigit (WS kX2_isDigit)) := gS tw_169 tw_170 tw_37 tw_171
theorem gs_X2_24 (cw : Cond) : GoodIn (WS cw) (va_wsS RX2 24 yX2_goesOnInPerson (WS kX2_goesOnInPerson)) := gS tw_172 tw_173 tw_37 tw_174
theorem gs_X2_27 (cw : Cond) : GoodIn (WS cw) (va_wsS RX2 27 yX2_kindOf (WS kX2_kindOf)) := gS tw_175 tw_176 tw_37 tw_177
theorem gs_X3_101 (cw : Cond) : GoodIn (WS cw) (wsV RX3 101 RX0 yX0_pullersOf (WS kX0_pullersOf)) := gV tw_248 tw_249 tw_250 tw_34 tw_251
theorem gs_X3_104 (cw : Cond) : GoodIn (WS cw) (wsV RX3 104 RX0 yX0_isFair (WS kX0_isFair)) := gV tw_261 tw_262 tw_263 tw_34 tw_264
theorem gs_X3_107 (cw : Cond) : GoodIn (WS cw) (va_wsS RX3 107 yX3_isLoadsQuestion (WS kX3_isLoadsQuestion)) := gS tw_276 tw_277 tw_33 tw_278
theorem gs_X3_110 (cw : Cond) : GoodIn (WS cw) (wsV RX3 110 RX0 yX0_areLoads (WS kX0_areLoads)) := gV tw_279 tw_280 tw_281 tw_34 tw_282
theorem gs_X3_114 (cw : Cond) : GoodIn (WS cw) (wsV RX3 114 RX0 yX0_firstWrong (WS kX0_firstWrong)) := gV tw_284 tw_285 tw_286 tw_34 tw_287
theorem gs_X3_117 (cw : Cond) : GoodIn (WS cw) (wsV RX3 117 RX3 yX3_ofLoads (WS kX3_ofLoads)) := gV tw_288 tw_290 tw_3 tw_33 tw_291
theorem gs_X3_121 (cw : Cond) : GoodIn (WS cw) (wsV RX3 121 RX0 yX0_findFewest (WS kX0_findFewest)) := gV tw_301 tw_302 tw_303 tw_34 tw_304
theorem gs_X3_127 (cw : Cond) : GoodIn (WS cw) (wsV RX3 127 RX0 yX0_everybody (WS kX0_everybody)) := gV tw_312 tw_233 tw_234 tw_34 tw_235
theorem gs_X3_131 (cw : Cond) : GoodIn (WS cw) (wsV RX3 131 RX0 yX0_loadOfCross (WS kX0_loadOfCross)) := gV tw_313 tw_314 tw_315 tw_34 tw_316
theorem gs_X3_134 (cw : Cond) : GoodIn (WS cw) (wsV RX3 134 RX0 yX0_lenderOf (WS kX0_lenderOf)) := gV tw_325 tw_326 tw_327 tw_34 tw_328
theorem gs_X3_137 (cw : Cond) : GoodIn (WS cw) (va_wsS RX3 137 yJ6_bitCount_0f7a4 (WS kJ6_bitCount_0f7a4)) := gS tw_333 tw_266 tw_38 tw_267
theorem gs_X3_142 (cw : Cond) : GoodIn (WS cw) (wsV RX3 142 RX0 yX0_pullersIf (WS kX0_pullersIf)) := gV tw_334 tw_253 tw_254 tw_34 tw_255
theorem gs_X3_154 (cw : Cond) : GoodIn (WS cw) (wsV RX3 154 RX0 yX0_notesThatFit (WS kX0_notesThatFit)) := gV tw_347 tw_348 tw_349 tw_34 tw_350
theorem gs_X3_158 (cw : Cond) : GoodIn (WS cw) (wsV RX3 158 RX0 yX0_kindsThatFit (WS kX0_kindsThatFit)) := gV tw_359 tw_360 tw_361 tw_34 tw_362
theorem gs_X3_161 (cw : Cond) : GoodIn (WS cw) (wsV RX3 161 RX0 yX0_timesThatFit (WS kX0_timesThatFit)) := gV tw_367 tw_368 tw_369 tw_34 tw_370
theorem gs_X3_166 (cw : Cond) : GoodIn (WS cw) (wsV RX3 166 RX0 yX0_wetSetsWithPuller (WS kX0_wetSetsWithPuller)) := gV tw_376 tw_377 tw_378 tw_34 tw_379
theorem gs_X3_169 (cw : Cond) : GoodIn (WS cw) (wsV RX3 169 RX1 yX1_startRow (WS kX1_startRow)) := gV tw_384 tw_385 tw_386 tw_35 tw_387
theorem gs_X3_177 (cw : Cond) : GoodIn (WS cw) (wsV RX3 177 RX1 yX1_hasCell (WS kX1_hasCell)) := gV tw_396 tw_397 tw_398 tw_35 tw_399
theorem gs_X3_180 (cw : Cond) : GoodIn (WS cw) (wsV RX3 180 RX1 yX1_store (WS kX1_store)) := gV tw_400 tw_401 tw_402 tw_35 tw_403
theorem gs_X3_195 (cw : Cond) : GoodIn (WS cw) (wsV RX3 195 RX3 yX3_bankerTells (WS kX3_bankerTells)) := gV tw_419 tw_421 tw_4 tw_33 tw_422
theorem gs_X3_198 (cw : Cond) : GoodIn (WS cw) (wsV RX3 198 RX3 yX3_friendTells (WS kX3_friendTells)) := gV tw_427 tw_429 tw_6 tw_33 tw_430
theorem gs_X3_201 (cw : Cond) : GoodIn (WS cw) (wsV RX3 201 RX3 yX3_riderTells (WS kX3_riderTells)) := gV tw_431 tw_433 tw_7 tw_33 tw_434
theorem gs_X3_204 (cw : Cond) : GoodIn (WS cw) (wsV RX3 204 RX3 yX3_bankerIsHailed (WS kX3_bankerIsHailed)) := gV tw_439 tw_441 tw_8 tw_33 tw_442
theorem gs_X3_207 (cw : Cond) : GoodIn (WS cw) (wsV RX3 207 RX3 yX3_lentHail (WS kX3_lentHail)) := gV tw_443 tw_445 tw_9 tw_33 tw_446
theorem gs_X3_213 (cw : Cond) : GoodIn (WS cw) (wsV RX3 213 RX0 yX0_isLoad (WS kX0_isLoad)) := gV tw_228 tw_229 tw_230 tw_34 tw_231
theorem gs_X3_216 (cw : Cond) : GoodIn (WS cw) (wsV RX3 216 RX0 yX0_isSo (WS kX0_isSo)) := gV tw_292 tw_293 tw_294 tw_34 tw_295
theorem gs_X3_219 (cw : Cond) : GoodIn (WS cw) (wsV RX3 219 RX3 yX3_leaveTrace (WS kX3_leaveTrace)) := gV tw_423 tw_425 tw_5 tw_33 tw_426
theorem gs_X3_29 (cw : Cond) : GoodIn (WS cw) (va_wsS RX3 29 yX3_isSheet (WS kX3_isSheet)) := gS tw_145 tw_146 tw_33 tw_147
theorem gs_X3_33 (cw : Cond) : GoodIn (WS cw) (va_wsS RX3 33 yX3_isLane (WS kX3_isLane)) := gS tw_148 tw_149 tw_33 tw_150
theorem gs_X3_36 (cw : Cond) : GoodIn (WS cw) (wsV RX3 36 RX1 yX1_faultAs (WS kX1_faultAs)) := gV tw_151 tw_152 tw_153 tw_35 tw_154
theorem gs_X3_40 (cw : Cond) : GoodIn (WS cw) (wsV RX3 40 RX1 yX1_hasCells (WS kX1_hasCells)) := gV tw_155 tw_156 tw_157 tw_35 tw_158
theorem gs_X3_44 (cw : Cond) : GoodIn (WS cw) (wsV RX3 44 RX3 yX3_faulted (WS kX3_faulted)) := gV tw_159 tw_161 tw_0 tw_33 tw_162
theorem gs_X3_47 (cw : Cond) : GoodIn (WS cw) (va_wsS RX3 47 yX2_firstFault (WS kX2_firstFault)) := gS tw_163 tw_164 tw_37 tw_165
theorem gs_X3_53 (cw : Cond) : GoodIn (WS cw) (wsV RX3 53 RX0 yX0_takeText (WS kX0_takeText)) := gV tw_178 tw_179 tw_180 tw_34 tw_181
theorem gs_X3_60 (cw : Cond) : GoodIn (WS cw) (wsV RX3 60 RX0 yX0_isPerson (WS kX0_isPerson)) := gV tw_187 tw_188 tw_189 tw_34 tw_190
theorem gs_X3_70 (cw : Cond) : GoodIn (WS cw) (wsV RX3 70 RX0 yX0_allNotes (WS kX0_allNotes)) := gV tw_191 tw_192 tw_193 tw_34 tw_194
theorem gs_X3_77 (cw : Cond) : GoodIn (WS cw) (wsV RX3 77 RX0 yX0_isPair (WS kX0_isPair)) := gV tw_203 tw_204 tw_205 tw_34 tw_206
theorem gs_X3_80 (cw : Cond) : GoodIn (WS cw) (wsV RX3 80 RX0 yX0_isThere (WS kX0_isThere)) := gV tw_212 tw_213 tw_214 tw_34 tw_215
theorem gs_X3_90 (cw : Cond) : GoodIn (WS cw) (wsV RX3 90 RX3 yX3_refusalOfOneIn (WS kX3_refusalOfOneIn)) := gV tw_224 tw_226 tw_1 tw_33 tw_227
theorem gs_X3_94 (cw : Cond) : GoodIn (WS cw) (wsV RX3 94 RX0 yX0_debtIf (WS kX0_debtIf)) := gV tw_236 tw_237 tw_238 tw_34 tw_239
theorem gs_X3_98 (cw : Cond) : GoodIn (WS cw) (wsV RX3 98 RX3 yX3_refusalOfLoad (WS kX3_refusalOfLoad)) := gV tw_244 tw_246 tw_2 tw_33 tw_247
theorem gs_X4_104 (cw : Cond) : GoodIn (WS cw) (wsV RX4 104 RX4 yX4_isSign (WS kX4_isSign)) := gV tw_582 tw_584 tw_13 tw_36 tw_585
theorem gs_X4_108 (cw : Cond) : GoodIn (WS cw) (wsV RX4 108 RX4 yX4_digit (WS kX4_digit)) := gV tw_586 tw_588 tw_14 tw_36 tw_589
theorem gs_X4_112 (cw : Cond) : GoodIn (WS cw) (wsV RX4 112 RX4 yX4_readPerson (WS kX4_readPerson)) := gV tw_590 tw_592 tw_15 tw_36 tw_593
theorem gs_X4_115 (cw : Cond) : GoodIn (WS cw) (wsV RX4 115 RX4 yX4_isPerson (WS kX4_isPerson)) := gV tw_602 tw_604 tw_17 tw_36 tw_605
theorem gs_X4_118 (cw : Cond) : GoodIn (WS cw) (wsV RX4 118 RX4 yX4_allOf (WS kX4_allOf)) := gV tw_606 tw_608 tw_18 tw_36 tw_609
theorem gs_X4_121 (cw : Cond) : GoodIn (WS cw) (wsV RX4 121 RX4 yX4_isNote (WS kX4_isNote)) := gV tw_618 tw_620 tw_19 tw_36 tw_621
theorem gs_X4_127 (cw : Cond) : GoodIn (WS cw) (va_wsS RX4 127 yX4_isOf (WS kX4_isOf)) := gS tw_638 tw_639 tw_36 tw_640
theorem gs_X4_133 (cw : Cond) : GoodIn (WS cw) (wsV RX4 133 RX4 yX4_debtOf (WS kX4_debtOf)) := gV tw_641 tw_643 tw_21 tw_36 tw_644
theorem gs_X4_137 (cw : Cond) : GoodIn (WS cw) (wsV RX4 137 RX4 yX4_pullersOf (WS kX4_pullersOf)) := gV tw_649 tw_651 tw_22 tw_36 tw_652
theorem gs_X4_140 (cw : Cond) : GoodIn (WS cw) (va_wsS RX4 140 yX4_size (WS kX4_size)) := gS tw_661 tw_662 tw_36 tw_663
theorem gs_X4_143 (cw : Cond) : GoodIn (WS cw) (wsV RX4 143 RX4 yX4_isSet (WS kX4_isSet)) := gV tw_634 tw_636 tw_20 tw_36 tw_637
theorem gs_X4_146 (cw : Cond) : GoodIn (WS cw) (wsV RX4 146 RX4 yX4_isFair (WS kX4_isFair)) := gV tw_657 tw_659 tw_23 tw_36 tw_660
theorem gs_X4_161 (cw : Cond) : GoodIn (WS cw) (wsV RX4 161 RX4 yX4_goLoads (WS kX4_goLoads)) := gV tw_668 tw_670 tw_24 tw_36 tw_671
theorem gs_X4_164 (cw : Cond) : GoodIn (WS cw) (wsV RX4 164 RX4 yX4_tellLoads (WS kX4_tellLoads)) := gV tw_672 tw_674 tw_25 tw_36 tw_675
theorem gs_X4_167 (cw : Cond) : GoodIn (WS cw) (wsV RX4 167 RX4 yX4_findFewest (WS kX4_findFewest)) := gV tw_680 tw_682 tw_26 tw_36 tw_683
theorem gs_X4_170 (cw : Cond) : GoodIn (WS cw) (wsV RX4 170 RX4 yX4_firstLoad (WS kX4_firstLoad)) := gV tw_684 tw_686 tw_27 tw_36 tw_687
theorem gs_X4_173 (cw : Cond) : GoodIn (WS cw) (wsV RX4 173 RX4 yX4_pullsBy (WS kX4_pullsBy)) := gV tw_692 tw_694 tw_28 tw_36 tw_695
theorem gs_X4_177 (cw : Cond) : GoodIn (WS cw) (wsV RX4 177 RX4 yX4_areSo (WS kX4_areSo)) := gV tw_712 tw_714 tw_29 tw_36 tw_715
theorem gs_X4_181 (cw : Cond) : GoodIn (WS cw) (va_wsS RX4 181 yX4_inLeastTerms (WS kX4_inLeastTerms)) := gS tw_729 tw_730 tw_36 tw_731
theorem gs_X4_185 (cw : Cond) : GoodIn (WS cw) (wsV RX4 185 RX4 yX4_lost (WS kX4_lost)) := gV tw_748 tw_750 tw_30 tw_36 tw_751
theorem gs_X4_192 (cw : Cond) : GoodIn (WS cw) (wsV RX4 192 RX4 yX4_begins (WS kX4_begins)) := gV tw_760 tw_762 tw_31 tw_36 tw_763
theorem gs_X4_55 (cw : Cond) : GoodIn (WS cw) (va_wsS RX4 55 yX4_within (WS kX4_within)) := gS tw_564 tw_565 tw_36 tw_566
theorem gs_X4_65 (cw : Cond) : GoodIn (WS cw) (va_wsS RX4 65 yX4_isSheet (WS kX4_isSheet)) := gS tw_561 tw_562 tw_36 tw_563
theorem gs_X4_69 (cw : Cond) : GoodIn (WS cw) (va_wsS RX4 69 yX4_isSort (WS kX4_isSort)) := gS tw_567 tw_568 tw_36 tw_569
theorem gs_X4_72 (cw : Cond) : GoodIn (WS cw) (wsV RX4 72 RX4 yX4_against (WS kX4_against)) := gV tw_570 tw_572 tw_10 tw_36 tw_573
theorem gs_X4_76 (cw : Cond) : GoodIn (WS cw) (wsV RX4 76 RX4 yX4_fails (WS kX4_fails)) := gV tw_574 tw_576 tw_11 tw_36 tw_577
theorem gs_X4_80 (cw : Cond) : GoodIn (WS cw) (wsV RX4 80 RX4 yX4_readRiver (WS kX4_readRiver)) := gV tw_578 tw_580 tw_12 tw_36 tw_581
theorem gs_X4_83 (cw : Cond) : GoodIn (WS cw) (wsV RX4 83 RX4 yX4_takeRiver (WS kX4_takeRiver)) := gV tw_594 tw_596 tw_16 tw_36 tw_597
theorem bz_fX0_isFair {n : Nat} {σ : St} {v1 : Int32} {r : Int32} (h : fX0_isFair n σ v1 = some r) : narrow .boolean (.int r) = .int r := by
  rw [fX0_isFair] at h
  obtain ⟨r2, hg1, h⟩ := ob h
  by_cases c3 : r2 ≤ σ 10 1
  · replace h := ot c3 h
    obtain ⟨r5, hg4, h⟩ := ob h
    obtain ⟨r7, hg6, h⟩ := ob h
    by_cases c8 : r7 = 1
    · replace h := ot c8 h
      by_cases c9 : r5 &&& (σ 10 3) = 0
      · replace h := ot c9 h
        obtain rfl := os1 h
        rfl
      · replace h := oe c9 h
        obtain rfl := os1 h
        rfl
    · replace h := oe c8 h
      obtain rfl := os1 h
      rfl
  · replace h := oe c3 h
    obtain rfl := os1 h
    rfl
theorem bz_fX2_isDigit {v0 : Int32} {v1 : Int32} {v2 : Int32} {r : Int32} (h : fX2_isDigit v0 v1 v2 = some r) : narrow .boolean (.int r) = .int r := by
  rw [fX2_isDigit] at h
  by_cases c1 : v0 < (48 : Int32) + v1
  · replace h := ot c1 h
    obtain rfl := os1 h
    rfl
  · replace h := oe c1 h
    by_cases c2 : (48 : Int32) + v2 < v0
    · replace h := ot c2 h
      obtain rfl := os1 h
      rfl
    · replace h := oe c2 h
      obtain rfl := os1 h
      rfl
theorem bz_fX2_goesOnInPerson {v0 : Int32} {v1 : Int32} {v2 : Int32} {r : Int32} (h : fX2_goesOnInPerson v0 v1 v2 = some r) : narrow .boolean (.int r) = .int r := by
  rw [fX2_goesOnInPerson] at h
  obtain ⟨hg1, h⟩ := og h
  obtain ⟨hg2, h⟩ := og h
  by_cases c3 : v0 - v0 / ((3 : Int32) + v2) * ((3 : Int32) + v2) = 0
  · replace h := ot c3 h
    by_cases c4 : v1 = 44
    · replace h := ot c4 h
      obtain rfl := os1 h
      rfl
    · replace h := oe c4 h
      obtain rfl := os1 h
      rfl
  · replace h := oe c3 h
    by_cases c5 : v0 - v0 / ((3 : Int32) + v2) * ((3 : Int32) + v2) = 1
    · replace h := ot c5 h
      obtain ⟨r7, hg6, h⟩ := ob h
      by_cases c8 : r7 = (-9)
      · replace h := ot c8 h
        obtain rfl := os1 h
        rfl
      · replace h := oe c8 h
        obtain rfl := os1 h
        rfl
    · replace h := oe c5 h
      by_cases c9 : v0 - v0 / ((3 : Int32) + v2) * ((3 : Int32) + v2) = 2
      · replace h := ot c9 h
        obtain ⟨r11, hg10, h⟩ := ob h
        obtain rfl := os1 h
        exact bz_fX2_isDigit hg10
      · replace h := oe c9 h
        by_cases c12 : (v0 - v0 / ((3 : Int32) + v2) * ((3 : Int32) + v2)) - 3 = v0 / ((3 : Int32) + v2)
        · replace h := ot c12 h
          obtain ⟨r16, hg15, h⟩ := ob h
          obtain rfl := os1 h
          exact bz_fX2_isDigit hg15
        · replace h := oe c12 h
          obtain ⟨r14, hg13, h⟩ := ob h
          obtain rfl := os1 h
          exact bz_fX2_isDigit hg13
theorem bz_fX4_within {v0 : Int32} {v1 : Int32} {v2 : Int32} {r : Int32} (h : fX4_within v0 v1 v2 = some r) : narrow .boolean (.int r) = .int r := by
  rw [fX4_within] at h
  by_cases c1 : v0 < v1
  · replace h := ot c1 h
    obtain rfl := os1 h
    rfl
  · replace h := oe c1 h
    by_cases c2 : v2 < v0
    · replace h := ot c2 h
      obtain rfl := os1 h
      rfl
    · replace h := oe c2 h
      obtain rfl := os1 h
      rfl
